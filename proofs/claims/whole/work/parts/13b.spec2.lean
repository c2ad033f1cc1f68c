/-! ===== statics; the field's start; sums, greatest ones, least ones ===== -/
theorem r_gets1 {g : Gx} {cc : ByteArray} {nL : Nat} {ret : Option FieldType} {p : Program} {l : Launch} {e : Env} {R : Room} {s : State} {m : MethodId} {args : Array Value} {below : List Frame} {meth : Method} {c : Code} {A : Nat → Prop} {cells slots : Nat} {Q : State → Prop} {ws : va_W} {pc : Nat} {lv : List (Nat × Value)} {st : List Value} {own nm d : String} {index b : Nat} (C : CX g own cc nL ret A p s m args meth c) (hZ : va_Z own nm d (.ref b) A s s.heap) (hl : Cond.fieldLink own index own nm d ∈ wsL_law) (hd : decode cc pc = .ok (.getstatic index, 3)) (k : RUN g nL p l e R s m args below meth c A cells slots Q ws (pc + 3) lv (.ref b :: st)) : RUN g nL p l e R s m args below meth c A cells slots Q ws pc lv st := fun ls H locs h1 h2 h3 h4 => va_gets C.1 C.2.1 hZ h4 C.2.2.2.1 (C.2.2.2.2.1 _ hl) (fun _ h => h) hd (k ls H locs h1 h2 h3 h4)
theorem r_ti {g : Gx} {cc : ByteArray} {nL : Nat} {ret : Option FieldType} {p : Program} {l : Launch} {e : Env} {R : Room} {s : State} {m : MethodId} {args : Array Value} {below : List Frame} {meth : Method} {c : Code} {A : Nat → Prop} {cells slots : Nat} {Q : State → Prop} {ws : va_W} {pc : Nat} {lv : List (Nat × Value)} {st : List Value} {own : String} {b : Nat} {f : Nat → Value} {i v : Int} (C : CX g own cc nL ret A p s m args meth c) (hT : va_T .int b 3 f A s s.heap) (hd : decode cc pc = .ok (.iaload, 1)) (h : 0 ≤ i ∧ i < (3 : Nat)) (hv : f i.toNat = vi v) (k : RUN g nL p l e R s m args below meth c A cells slots Q ws (pc + 1) lv (vi v :: st)) : RUN g nL p l e R s m args below meth c A cells slots Q ws pc lv (vi i :: .ref b :: st) := fun ls H locs h1 h2 h3 h4 => va_ti C.1 C.2.1 hT h4 (zI_in rfl h) (by rw [zI_cl (by omega)]; exact hv) hd (k ls H locs h1 h2 h3 h4)
theorem stp1_eq {m : Int} (h : 0 ≤ m ∧ m ≤ 2) : stp1 m.toNat = vi (sA m) := by
  rcases (show m = 0 ∨ m = 1 ∨ m = 2 by omega) with rfl | rfl | rfl <;> rfl
theorem stp2_eq {m : Int} (h : 0 ≤ m ∧ m ≤ 2) : stp2 m.toNat = vi (sB m) := by
  rcases (show m = 0 ∨ m = 1 ∨ m = 2 by omega) with rfl | rfl | rfl <;> rfl
/-- the start of the field, ahead of the cell (x, y) -/
def STI (w h : Int) (f : Int → Int) (c : Int) (D : Int → Int) (x y : Int) : Prop := ∀ u v : Int, -1 ≤ u → u ≤ 11 → -1 ≤ v → v ≤ 11 → D (ix u v) = if v < y ∨ v = y ∧ u < x then ini w h f c u v else c
theorem ini_out {w h : Int} {f : Int → Int} {c u v : Int} (q : ¬ (0 ≤ u ∧ u < w ∧ 0 ≤ v ∧ v < h)) : ini w h f c u v = c := by
  unfold ini eA
  rw [if_neg q, if_neg (by decide)]
theorem STI_0 {w h : Int} {f D : Int → Int} {c : Int} (hD : ∀ k : Int, 0 ≤ k → k < 169 → D k = c) : STI w h f c D 0 0 := by
  intro u v a1 a2 a3 a4
  rw [hD _ (by unfold ix; omega) (by unfold ix; omega)]
  split
  · rw [ini_out (by omega)]
  · rfl
theorem STI_e {w h : Int} {f D : Int → Int} {c x y : Int} (hx : 0 ≤ x ∧ x ≤ 10) (he : eA w h f x y = 1) (H : STI w h f c D x y) : STI w h f c (zU D (ix x y) 0) (x + 1) y := by
  intro u v a1 a2 a3 a4
  by_cases e : u = x ∧ v = y
  · obtain ⟨rfl, rfl⟩ := e
    rw [zU_eq, if_pos (by omega)]
    unfold ini
    rw [if_pos he]
  · rw [zU_ne _ _ (ix_ne (by omega) (by omega) e), H u v a1 a2 a3 a4]
    by_cases q : v < y ∨ v = y ∧ u < x
    · rw [if_pos q, if_pos (by omega)]
    · rw [if_neg q, if_neg (by omega)]
theorem STI_n {w h : Int} {f D : Int → Int} {c x y : Int} (he : ¬ eA w h f x y = 1) (H : STI w h f c D x y) : STI w h f c D (x + 1) y := by
  intro u v a1 a2 a3 a4
  rw [H u v a1 a2 a3 a4]
  by_cases q : v < y ∨ v = y ∧ u < x
  · rw [if_pos q, if_pos (by omega)]
  · rw [if_neg q]
    split
    · have : u = x ∧ v = y := by omega
      obtain ⟨rfl, rfl⟩ := this
      unfold ini
      rw [if_neg he]
    · rfl
theorem STI_r {w h : Int} {f D : Int → Int} {c x y : Int} (hx : w ≤ x) (H : STI w h f c D x y) : STI w h f c D 0 (y + 1) := by
  intro u v a1 a2 a3 a4
  rw [H u v a1 a2 a3 a4]
  by_cases q : v < y ∨ v = y ∧ u < x
  · rw [if_pos q]
    split
    · rfl
    · rw [ini_out (by omega)]
  · rw [if_neg q]
    split
    · rw [ini_out (by omega)]
    · rfl
theorem STI_Fw {w h : Int} {f D : Int → Int} {m c y : Int} (hy : h ≤ y) (hw : w ≤ 11 ∧ h ≤ 11) (hc : 0 ≤ c) (H : STI w h f c D 0 y) : FwI w h f m c D 0 0 := by
  have H2 : ∀ u v : Int, -1 ≤ u → u ≤ 11 → -1 ≤ v → v ≤ 11 → D (ix u v) = ini w h f c u v := by
    intro u v a1 a2 a3 a4
    rw [H u v a1 a2 a3 a4]
    split
    · rfl
    · rw [ini_out (by omega)]
  have hi : ∀ u v : Int, 0 ≤ ini w h f c u v ∧ ini w h f c u v ≤ c := by
    intro u v
    unfold ini
    split <;> omega
  refine ⟨⟨fun u v a1 a2 a3 a4 => ?_, fun u v a1 a2 a3 a4 => ?_⟩, fun u v a1 a2 a3 a4 a5 => by omega, fun u v a1 a2 a3 a4 a5 => H2 u v (by omega) (by omega) (by omega) (by omega)⟩
  · rw [H2 u v a1 a2 a3 a4]
    exact ⟨(hi u v).1, (hi u v).2, fun q => ini_out q⟩
  · rw [H2 u v (by omega) (by omega) (by omega) (by omega)]
    unfold ini
    split
    · rename_i he
      have h1 := farM_le (EE w h f) m c u v 121 (11 * v + u) (by omega) (by omega) (by
        unfold EE
        rw [show (11 * v + u) % 11 = u by omega, show (11 * v + u) / 11 = v by omega]
        exact he)
      rw [show (11 * v + u) % 11 = u by omega, show (11 * v + u) / 11 = v by omega, Int.sub_self, Int.sub_self, dst_00] at h1
      exact h1
    · exact farS_c _ _ _ _ _
theorem LB_all {w h : Int} {f D : Int → Int} {m c : Int} (hc : c ≤ 99) (H : LBd w h f m c D) : ∀ k : Int, 0 ≤ k → k < 169 → 0 ≤ D k ∧ D k ≤ 99 := by
  intro k h0 h1
  have := H.1 (k % 13 - 1) (k / 13 - 1) (by omega) (by omega) (by omega) (by omega)
  rw [show ix (k % 13 - 1) (k / 13 - 1) = k by unfold ix; omega] at this
  omega
/-- the greatest of a row's first ones, from 0 on; the first place of it -/
def mxN (F : Int → Int) : Nat → Int
  | 0 => 0
  | k + 1 => if mxN F k < F (k : Int) then F (k : Int) else mxN F k
def wdN (F : Int → Int) : Nat → Int
  | 0 => 0
  | k + 1 => if mxN F k < F (k : Int) then (k : Int) else wdN F k
def mxI (F : Int → Int) (i : Int) : Int := mxN F i.toNat
def wdI (F : Int → Int) (i : Int) : Int := wdN F i.toNat
theorem mxI_s (F : Int → Int) {i : Int} (h : 0 ≤ i) : mxI F (i + 1) = if mxI F i < F i then F i else mxI F i := by
  obtain ⟨n, rfl⟩ := Int.eq_ofNat_of_zero_le h
  unfold mxI
  rw [show ((n : Int) + 1).toNat = n + 1 by omega, Int.toNat_natCast]
  rfl
theorem wdI_s (F : Int → Int) {i : Int} (h : 0 ≤ i) : wdI F (i + 1) = if mxI F i < F i then i else wdI F i := by
  obtain ⟨n, rfl⟩ := Int.eq_ofNat_of_zero_le h
  unfold wdI mxI
  rw [show ((n : Int) + 1).toNat = n + 1 by omega, Int.toNat_natCast]
  rfl
/-- how far each dot is from the edges -/
def frF (D P Q : Int → Int) (x y : Int) : Int → Int := fun d => D (ix (x + P d) (y + Q d))
def is0 (F : Int → Int) : Int → Int := fun d => if F d = 0 then 1 else 0
/-- the cells of a grid, row by row -/
def sum2 (w h : Int) (G : Int → Int → Int) : Int := sI (fun y => sI (fun x => G x y) w) h
def isn (D : Int → Int) (n : Int) : Int → Int → Int := fun x y => if D (ix x y) = n then 1 else 0
/-- the least of a box, of what lies ahead of (X, Y) -/
def LSP (D : Int → Int) (w h lf tp rt bt r X Y : Int) : Prop :=
  (r = -4 ∧ ∀ x y : Int, lf ≤ x → x ≤ rt → tp ≤ y → y ≤ bt → 0 ≤ x → x < w → 0 ≤ y → y < h → ¬ (y < Y ∨ y = Y ∧ x < X)) ∨ ((∃ x y : Int, lf ≤ x ∧ x ≤ rt ∧ tp ≤ y ∧ y ≤ bt ∧ 0 ≤ x ∧ x < w ∧ 0 ≤ y ∧ y < h ∧ D (ix x y) = r) ∧ ∀ x y : Int, lf ≤ x → x ≤ rt → tp ≤ y → y ≤ bt → 0 ≤ x → x < w → 0 ≤ y → y < h → (y < Y ∨ y = Y ∧ x < X) → r ≤ D (ix x y))
def LSB (D : Int → Int) (w h lf tp rt bt r : Int) : Prop :=
  (r = -4 ∧ ∀ x y : Int, lf ≤ x → x ≤ rt → tp ≤ y → y ≤ bt → 0 ≤ x → x < w → 0 ≤ y → y < h → False) ∨ ((∃ x y : Int, lf ≤ x ∧ x ≤ rt ∧ tp ≤ y ∧ y ≤ bt ∧ 0 ≤ x ∧ x < w ∧ 0 ≤ y ∧ y < h ∧ D (ix x y) = r) ∧ ∀ x y : Int, lf ≤ x → x ≤ rt → tp ≤ y → y ≤ bt → 0 ≤ x → x < w → 0 ≤ y → y < h → r ≤ D (ix x y))
theorem LSP_new {D : Int → Int} {w h lf tp rt bt r X Y : Int} (hw : w ≤ 11 ∧ h ≤ 11) (hD : ∀ k : Int, 0 ≤ k → k < 169 → 0 ≤ D k ∧ D k ≤ 99) (hin : lf ≤ X ∧ X ≤ rt ∧ tp ≤ Y ∧ Y ≤ bt ∧ 0 ≤ X ∧ X < w ∧ 0 ≤ Y ∧ Y < h) (hr : r = -4 ∨ D (ix X Y) < r) (H : LSP D w h lf tp rt bt r X Y) : LSP D w h lf tp rt bt (D (ix X Y)) (X + 1) Y := by
  refine Or.inr ⟨⟨X, Y, by omega, by omega, by omega, by omega, by omega, by omega, by omega, by omega, rfl⟩, fun x y a1 a2 a3 a4 a5 a6 a7 a8 a9 => ?_⟩
  by_cases e : x = X ∧ y = Y
  · rw [e.1, e.2]; omega
  · rcases H with ⟨-, H⟩ | ⟨⟨x0, y0, b1, b2, b3, b4, b5, b6, b7, b8, b9⟩, H⟩
    · exact absurd (show y < Y ∨ y = Y ∧ x < X by omega) (H x y a1 a2 a3 a4 a5 a6 a7 a8)
    · have h1 := H x y a1 a2 a3 a4 a5 a6 a7 a8 (by omega)
      rcases hr with hr | hr
      · have := hD (ix x0 y0) (by unfold ix; omega) (by unfold ix; omega)
        omega
      · omega
theorem LSP_old {D : Int → Int} {w h lf tp rt bt r X Y : Int} (hr : ¬ r = -4 ∧ r ≤ D (ix X Y)) (H : LSP D w h lf tp rt bt r X Y) : LSP D w h lf tp rt bt r (X + 1) Y := by
  rcases H with ⟨h1, -⟩ | ⟨h1, H⟩
  · exact absurd h1 hr.1
  · refine Or.inr ⟨h1, fun x y a1 a2 a3 a4 a5 a6 a7 a8 a9 => ?_⟩
    by_cases e : x = X ∧ y = Y
    · rw [e.1, e.2]; exact hr.2
    · exact H x y a1 a2 a3 a4 a5 a6 a7 a8 (by omega)
theorem LSP_mv {D : Int → Int} {w h lf tp rt bt r X Y X' Y' : Int} (hq : ∀ x y : Int, lf ≤ x → x ≤ rt → tp ≤ y → y ≤ bt → 0 ≤ x → x < w → 0 ≤ y → y < h → (y < Y' ∨ y = Y' ∧ x < X') → (y < Y ∨ y = Y ∧ x < X)) (H : LSP D w h lf tp rt bt r X Y) : LSP D w h lf tp rt bt r X' Y' := by
  rcases H with ⟨h1, H⟩ | ⟨h1, H⟩
  · exact Or.inl ⟨h1, fun x y a1 a2 a3 a4 a5 a6 a7 a8 a9 => H x y a1 a2 a3 a4 a5 a6 a7 a8 (hq x y a1 a2 a3 a4 a5 a6 a7 a8 a9)⟩
  · exact Or.inr ⟨h1, fun x y a1 a2 a3 a4 a5 a6 a7 a8 a9 => H x y a1 a2 a3 a4 a5 a6 a7 a8 (hq x y a1 a2 a3 a4 a5 a6 a7 a8 a9)⟩
theorem LSP_end {D : Int → Int} {w h lf tp rt bt r X Y : Int} (hq : ∀ x y : Int, lf ≤ x → x ≤ rt → tp ≤ y → y ≤ bt → 0 ≤ x → x < w → 0 ≤ y → y < h → (y < Y ∨ y = Y ∧ x < X)) (H : LSP D w h lf tp rt bt r X Y) : LSB D w h lf tp rt bt r := by
  rcases H with ⟨h1, H⟩ | ⟨h1, H⟩
  · exact Or.inl ⟨h1, fun x y a1 a2 a3 a4 a5 a6 a7 a8 => H x y a1 a2 a3 a4 a5 a6 a7 a8 (hq x y a1 a2 a3 a4 a5 a6 a7 a8)⟩
  · exact Or.inr ⟨h1, fun x y a1 a2 a3 a4 a5 a6 a7 a8 => H x y a1 a2 a3 a4 a5 a6 a7 a8 (hq x y a1 a2 a3 a4 a5 a6 a7 a8)⟩
/-- a row's bits put together -/
def rowP (G : Int → Int) (y c : Int) : Int := sI (fun u => G (11 * y + u) * 2 ^ u.toNat) c
def rowV (G : Int → Int) (y : Int) : Int := rowP G y 11
theorem pw_s {i : Int} (h : 0 ≤ i) : (2 : Int) ^ (i + 1).toNat = 2 ^ i.toNat * 2 := by
  rw [show (i + 1).toNat = i.toNat + 1 by omega, Int.pow_succ]
theorem rowP_b {G : Int → Int} (hG : ∀ k : Int, G k = 0 ∨ G k = 1) (y : Int) : ∀ n : Nat, 0 ≤ rowP G y n ∧ rowP G y n < 2 ^ n := by
  intro n
  induction n with
  | zero => unfold rowP; rw [show ((0 : Nat) : Int) = 0 from rfl, sI_0]; decide
  | succ n ih =>
    unfold rowP at ih ⊢
    rw [show ((n + 1 : Nat) : Int) = (n : Int) + 1 by omega, sI_s _ (by omega), Int.toNat_natCast, Int.pow_succ]
    rcases hG (11 * y + n) with e | e <;> rw [e] <;> omega
theorem orI_add {v : Int} {n : Nat} (h0 : 0 ≤ v) (h1 : v < 2 ^ n) : orI v (2 ^ n) = v + 2 ^ n := by
  obtain ⟨a, rfl⟩ := Int.eq_ofNat_of_zero_le h0
  have hp : (2 : Int) ^ n = ((2 ^ n : Nat) : Int) := by simp
  rw [hp] at h1 ⊢
  unfold orI
  rw [Int.toNat_natCast, Int.toNat_natCast, Nat.or_comm, ← Nat.mul_one (2 ^ n), ← Nat.two_pow_add_eq_or_of_lt (by omega)]
  omega
theorem rowP_or {G : Int → Int} (hG : ∀ k : Int, G k = 0 ∨ G k = 1) {y c : Int} (hc : 0 ≤ c) (h : G (11 * y + c) = 1) : orI (rowP G y c) (2 ^ c.toNat) = rowP G y (c + 1) := by
  obtain ⟨n, rfl⟩ := Int.eq_ofNat_of_zero_le hc
  have hb := rowP_b hG y n
  rw [Int.toNat_natCast, orI_add hb.1 hb.2]
  unfold rowP
  rw [sI_s _ hc, h, Int.one_mul, Int.toNat_natCast]
theorem rowP_no {G : Int → Int} {y c : Int} (hc : 0 ≤ c) (h : G (11 * y + c) = 0) : rowP G y (c + 1) = rowP G y c := by
  unfold rowP
  rw [sI_s _ hc, h, Int.zero_mul, Int.add_zero]
theorem rowP_tb {G : Int → Int} (hG : ∀ k : Int, G k = 0 ∨ G k = 1) (y : Int) {u : Nat} : ∀ n : Nat, u < n → tb (rowP G y n) u = G (11 * y + u) := by
  intro n
  induction n with
  | zero => intro h; omega
  | succ n ih =>
    intro h
    have hb := rowP_b hG y n
    have hs : rowP G y ((n + 1 : Nat) : Int) = rowP G y n + G (11 * y + n) * 2 ^ n := by
      unfold rowP
      rw [show ((n + 1 : Nat) : Int) = (n : Int) + 1 by omega, sI_s _ (by omega), Int.toNat_natCast]
    unfold tb at ih ⊢
    rw [Int.toNat_natCast] at ih ⊢
    rw [hs]
    by_cases e : u = n
    · subst e
      have hp : (0 : Int) < 2 ^ u := Int.pow_pos (by decide)
      rw [Int.add_mul_ediv_right _ _ (by omega), Int.ediv_eq_zero_of_lt hb.1 hb.2]
      rcases hG (11 * y + u) with q | q <;> rw [q] <;> decide
    · have hlt : u < n := by omega
      have hp : (0 : Int) < 2 ^ u := Int.pow_pos (by decide)
      have e2 : (2 : Int) ^ n = 2 ^ u * 2 ^ (n - u) := by rw [← Int.pow_add]; congr 1; omega
      rw [e2, ← Int.mul_assoc, Int.mul_comm (G (11 * y + n)) (2 ^ u), Int.mul_assoc, Int.add_mul_ediv_left _ _ (by omega)]
      have e3 : (2 : Int) ^ (n - u) = 2 * 2 ^ (n - u - 1) := by rw [show n - u = (n - u - 1) + 1 by omega, Int.pow_succ, Int.mul_comm]; simp
      rw [e3, ← Int.mul_assoc, Int.mul_comm (G (11 * y + n)) 2, Int.mul_assoc, Int.add_mul_emod_self_left]
      exact ih hlt
theorem rowV_tb {G : Int → Int} (hG : ∀ k : Int, G k = 0 ∨ G k = 1) (y : Int) {u : Int} (h0 : 0 ≤ u) (h1 : u < 11) : tb (rowV G y) u = G (11 * y + u) := by
  obtain ⟨n, rfl⟩ := Int.eq_ofNat_of_zero_le h0
  exact rowP_tb hG y 11 (by omega)
theorem rowV_b {G : Int → Int} (hG : ∀ k : Int, G k = 0 ∨ G k = 1) (y : Int) : 0 ≤ rowV G y ∧ rowV G y ≤ 2047 := by
  have := rowP_b hG y 11
  unfold rowV
  rw [show ((11 : Nat) : Int) = 11 from rfl] at this
  rw [show (2 : Int) ^ 11 = 2048 from rfl] at this
  omega
def nrN (m : Int) (P Q : Int → Int) (dx dy rch : Int) : Nat → Int
  | 0 => 0
  | k + 1 => if dst m (dx - P (k : Int)) (dy - Q (k : Int)) ≤ rch then 1 else nrN m P Q dx dy rch k
/-- 1 if a dot is so near -/
def nrI (m : Int) (P Q : Int → Int) (n dx dy rch : Int) : Int := nrN m P Q dx dy rch n.toNat
theorem nrI_s (m : Int) (P Q : Int → Int) {i dx dy rch : Int} (h : 0 ≤ i) : nrI m P Q (i + 1) dx dy rch = if dst m (dx - P i) (dy - Q i) ≤ rch then 1 else nrI m P Q i dx dy rch := by
  obtain ⟨n, rfl⟩ := Int.eq_ofNat_of_zero_le h
  unfold nrI
  rw [show ((n : Int) + 1).toNat = n + 1 by omega, Int.toNat_natCast]
  rfl
theorem nrN_1 {m : Int} {P Q : Int → Int} {dx dy rch : Int} : ∀ (n : Nat) (d : Int), 0 ≤ d → d < n → dst m (dx - P d) (dy - Q d) ≤ rch → nrN m P Q dx dy rch n = 1 := by
  intro n
  induction n with
  | zero => intro d h0 h1; omega
  | succ n ih =>
    intro d h0 h1 h2
    unfold nrN
    split
    · rfl
    · by_cases e : d = (n : Int)
      · subst e; contradiction
      · exact ih d h0 (by omega) h2
theorem nrN_0 {m : Int} {P Q : Int → Int} {dx dy rch : Int} : ∀ (n : Nat), (∀ d : Int, 0 ≤ d → d < n → ¬ dst m (dx - P d) (dy - Q d) ≤ rch) → nrN m P Q dx dy rch n = 0 := by
  intro n
  induction n with
  | zero => intro _; rfl
  | succ n ih =>
    intro h
    unfold nrN
    rw [if_neg (h n (by omega) (by omega))]
    exact ih (fun d h0 h1 => h d h0 (by omega))
theorem nrN_01 (m : Int) (P Q : Int → Int) (dx dy rch : Int) : ∀ (n : Nat), nrN m P Q dx dy rch n = 0 ∨ nrN m P Q dx dy rch n = 1 := by
  intro n
  induction n with
  | zero => exact Or.inl rfl
  | succ n ih => unfold nrN; split; exact Or.inr rfl; exact ih
theorem nrI_1 {m : Int} {P Q : Int → Int} {n dx dy rch d : Int} (h0 : 0 ≤ d) (h1 : d < n) (h2 : dst m (dx - P d) (dy - Q d) ≤ rch) : nrI m P Q n dx dy rch = 1 := nrN_1 n.toNat d h0 (by omega) h2
theorem nrI_0 {m : Int} {P Q : Int → Int} {n dx dy rch : Int} (h : ∀ d : Int, 0 ≤ d → d < n → ¬ dst m (dx - P d) (dy - Q d) ≤ rch) : nrI m P Q n dx dy rch = 0 := nrN_0 n.toNat (fun d h0 h1 => h d h0 (by omega))
/-- 1 for each edge that is told -/
def tdF (E : Int → Int) (m : Int) (P Q : Int → Int) (n x y rch : Int) : Int → Int := fun k => if E k = 1 then nrI m P Q n (k % 11 - x) (k / 11 - y) rch else 0
theorem tdF_01 (E : Int → Int) (m : Int) (P Q : Int → Int) (n x y rch : Int) (k : Int) : tdF E m P Q n x y rch k = 0 ∨ tdF E m P Q n x y rch k = 1 := by
  unfold tdF
  split
  · exact nrN_01 _ _ _ _ _ _ _
  · exact Or.inl rfl
