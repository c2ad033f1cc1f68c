/-! ===== poses: answers; what is taken ===== -/
def pAn (F : Int → Int) (n q : Int) : Int := if q = 0 then sI F n else if q = 1 then mxI F n else if q = 2 then wdI F n else sI (is0 F) n
theorem pAn_cong {F G : Int → Int} {n q : Int} (hn : 0 ≤ n) (h : ∀ d : Int, 0 ≤ d → d < n → F d = G d) : pAn F n q = pAn G n q := by
  unfold pAn
  rw [sI_cong h, mxI_cong hn h, wdI_cong hn h, sI_cong (f := is0 F) (g := is0 G) (fun d a b => by unfold is0; rw [h d a b])]
/-- the least FAR of a dot over a box of places -/
def BDS (fr : Int → Int → Int) (w h x y s u v r : Int) : Prop :=
  (r = -4 ∧ ∀ p q : Int, x ≤ p → p < x + s → y ≤ q → q < y + s → p < w → q < h → ¬ (0 ≤ p + u ∧ p + u < w ∧ 0 ≤ q + v ∧ q + v < h)) ∨ ((∃ p q : Int, x ≤ p ∧ p < x + s ∧ y ≤ q ∧ q < y + s ∧ p < w ∧ q < h ∧ (0 ≤ p + u ∧ p + u < w ∧ 0 ≤ q + v ∧ q + v < h) ∧ fr (p + u) (q + v) = r) ∧ ∀ p q : Int, x ≤ p → p < x + s → y ≤ q → q < y + s → p < w → q < h → (0 ≤ p + u ∧ p + u < w ∧ 0 ≤ q + v ∧ q + v < h) → r ≤ fr (p + u) (q + v))
theorem BDS_one {fr : Int → Int → Int} {w h x y s u v r r' : Int} (H : BDS fr w h x y s u v r) (H' : BDS fr w h x y s u v r') : r = r' := by
  rcases H with ⟨h1, h2⟩ | ⟨⟨p, q, a1, a2, a3, a4, a5, a6, a7, a8⟩, h2⟩
  · rcases H' with ⟨g1, g2⟩ | ⟨⟨p, q, a1, a2, a3, a4, a5, a6, a7, a8⟩, g2⟩
    · omega
    · exact absurd a7 (h2 p q a1 a2 a3 a4 a5 a6)
  · rcases H' with ⟨g1, g2⟩ | ⟨⟨p', q', b1, b2, b3, b4, b5, b6, b7, b8⟩, g2⟩
    · exact absurd a7 (g2 p q a1 a2 a3 a4 a5 a6)
    · have e1 := h2 p' q' b1 b2 b3 b4 b5 b6 b7
      have e2 := g2 p q a1 a2 a3 a4 a5 a6 a7
      omega
def BND (fr : Int → Int → Int) (w h x y s : Int) (P Q : Int → Int) (n r : Int) : Prop :=
  (r = -4 ∧ ∃ d : Int, 0 ≤ d ∧ d < n ∧ BDS fr w h x y s (P d) (Q d) (-4)) ∨ ∃ V : Int → Int, (∀ d : Int, 0 ≤ d → d < n → BDS fr w h x y s (P d) (Q d) (V d) ∧ 0 ≤ V d) ∧ r = sI V n
theorem BND_one {fr : Int → Int → Int} {w h x y s n r r' : Int} {P Q : Int → Int} (H : BND fr w h x y s P Q n r) (H' : BND fr w h x y s P Q n r') : r = r' := by
  rcases H with ⟨h1, d, d0, d1, d2⟩ | ⟨V, h1, h2⟩
  · rcases H' with ⟨g1, -⟩ | ⟨V', g1, g2⟩
    · omega
    · have := BDS_one d2 (g1 d d0 d1).1
      have := (g1 d d0 d1).2
      omega
  · rcases H' with ⟨g1, d, d0, d1, d2⟩ | ⟨V', g1, g2⟩
    · have := BDS_one d2 (h1 d d0 d1).1
      have := (h1 d d0 d1).2
      omega
    · rw [h2, g2]
      exact sI_cong (fun d a b => BDS_one (h1 d a b).1 (g1 d a b).1)
theorem LSB_BDS {D : Int → Int} {fr : Int → Int → Int} {w h x y s u v r : Int} (hf : ∀ a b : Int, 0 ≤ a → a < w → 0 ≤ b → b < h → D (ix a b) = fr a b) (hx : 0 ≤ x ∧ 0 ≤ y) (H : LSB D w h (x + u) (y + v) (min (x + s) w - 1 + u) (min (y + s) h - 1 + v) r) : BDS fr w h x y s u v r := by
  rcases H with ⟨h1, h2⟩ | ⟨⟨a, b, a1, a2, a3, a4, a5, a6, a7, a8, a9⟩, h2⟩
  · exact Or.inl ⟨h1, fun p q b1 b2 b3 b4 b5 b6 b7 => h2 (p + u) (q + v) (by omega) (by omega) (by omega) (by omega) (by omega) (by omega) (by omega) (by omega)⟩
  · refine Or.inr ⟨⟨a - u, b - v, by omega, by omega, by omega, by omega, by omega, by omega, by omega, ?_⟩, fun p q b1 b2 b3 b4 b5 b6 b7 => ?_⟩
    · rw [show a - u + u = a by omega, show b - v + v = b by omega, ← hf a b a5 a6 a7 a8]; exact a9
    · rw [← hf (p + u) (q + v) b7.1 b7.2.1 b7.2.2.1 b7.2.2.2]
      exact h2 (p + u) (q + v) (by omega) (by omega) (by omega) (by omega) (by omega) (by omega) (by omega) (by omega)
theorem nrI_cong {m : Int} {P Q P' Q' : Int → Int} {n dx dy rch : Int} (hP : ∀ d : Int, 0 ≤ d → d < n → P d = P' d) (hQ : ∀ d : Int, 0 ≤ d → d < n → Q d = Q' d) : nrI m P Q n dx dy rch = nrI m P' Q' n dx dy rch := by
  by_cases e : ∃ d : Int, 0 ≤ d ∧ d < n ∧ dst m (dx - P d) (dy - Q d) ≤ rch
  · obtain ⟨d, d0, d1, d2⟩ := e
    rw [nrI_1 d0 d1 d2, nrI_1 (P := P') (Q := Q') d0 d1 (by rw [← hP d d0 d1, ← hQ d d0 d1]; exact d2)]
  · rw [nrI_0 (fun d d0 d1 d2 => e ⟨d, d0, d1, d2⟩), nrI_0 (P := P') (Q := Q') (fun d d0 d1 d2 => e ⟨d, d0, d1, by rw [hP d d0 d1, hQ d d0 d1]; exact d2⟩)]
theorem tdF_cong {E E' : Int → Int} {m : Int} {P Q P' Q' : Int → Int} {n x y rch : Int} (hE : ∀ k : Int, 0 ≤ k → k < 121 → E k = E' k) (hP : ∀ d : Int, 0 ≤ d → d < n → P d = P' d) (hQ : ∀ d : Int, 0 ≤ d → d < n → Q d = Q' d) : ∀ k : Int, 0 ≤ k → k < 121 → tdF E m P Q n x y rch k = tdF E' m P' Q' n x y rch k := by
  intro k k0 k1
  unfold tdF
  rw [hE k k0 k1, nrI_cong hP hQ]
/-- what the pose of a rank tells -/
def tlF (E : Int → Int) (m : Int) (X Y : Int → Int) (n r0 rch : Int) : Int → Int := tdF E m (fun d => lX (prt r0 2) (prt r0 3) (prt r0 4) (X d) (Y d)) (fun d => lY (prt r0 2) (prt r0 3) (prt r0 4) (X d) (Y d)) n (prt r0 0) (prt r0 1) rch
theorem tlF_01 (E : Int → Int) (m : Int) (X Y : Int → Int) (n r0 rch k : Int) : tlF E m X Y n r0 rch k = 0 ∨ tlF E m X Y n r0 rch k = 1 := tdF_01 _ _ _ _ _ _ _ _ _
/-- one is taken: of its rank r0 -/
def TKO (w h : Int) (X Y : Int → Int) (n m c rch ill : Int) (f f2 : Int → Int) (r0 mn : Int) : Prop :=
  ∃ (T : Int → Int) (q : Int), TOP (RSc w h f X Y n m c) T q ∧ 0 < q ∧ r0 = T 0 ∧ prt r0 5 ≤ ill ∧ mn = sI (tlF (EE w h f) m X Y n r0 rch) 121 ∧ ¬ mn = 0 ∧ f2 = fun k => anI (f k) (rowV (tlF (EE w h f) m X Y n r0 rch) k)
/-- none can be taken -/
def TKX (w h : Int) (X Y : Int → Int) (n m c rch ill : Int) (f : Int → Int) : Prop :=
  ∃ (T : Int → Int) (q : Int), TOP (RSc w h f X Y n m c) T q ∧ (q = 0 ∨ ill < prt (T 0) 5 ∨ sI (tlF (EE w h f) m X Y n (T 0) rch) 121 = 0)
theorem TKO_one {w h n m c rch ill r0 r0' mn mn' : Int} {X Y f f2 f2' : Int → Int} (H : TKO w h X Y n m c rch ill f f2 r0 mn) (H' : TKO w h X Y n m c rch ill f f2' r0' mn') : f2 = f2' ∧ r0 = r0' ∧ mn = mn' := by
  obtain ⟨T, q, h1, h2, h3, h4, h5, h6, h7⟩ := H
  obtain ⟨T', q', g1, g2, g3, g4, g5, g6, g7⟩ := H'
  have e := (TOP_one h1 g1).2 0 (by decide) h2
  have e0 : r0 = r0' := by rw [h3, g3, e]
  subst e0
  exact ⟨by rw [h7, g7], rfl, by rw [h5, g5]⟩
theorem TKO_TKX {w h n m c rch ill r0 mn : Int} {X Y f f2 : Int → Int} (H : TKO w h X Y n m c rch ill f f2 r0 mn) (H' : TKX w h X Y n m c rch ill f) : False := by
  obtain ⟨T, q, h1, h2, h3, h4, h5, h6, h7⟩ := H
  obtain ⟨T', q', g1, g2⟩ := H'
  have e1 := TOP_one h1 g1
  have e := e1.2 0 (by decide) h2
  rw [← e, ← h3] at g2
  omega
/-- the changes and the ledger, as they are kept -/
abbrev HST : Type := Int × Int × (Int → Int) × (Int → SCT) × Int × (Int → Int) × (Int → Int)
def stC (w h : Int) (X Y : Int → Int) (n m c : Int) (f : Int → Int) (r0 mn : Int) : HST → HST
  | (nx, hz, bz, gs, bs, rk, gn) => ((nx + 1) % 6, min (hz + 1) 6, zU bz nx bs, upS gs nx (w, h, f, X, Y, n, m, c), bs + 1, zU rk bs r0, zU gn bs mn)
def itC (w h : Int) (X Y : Int → Int) (n m c : Int) (F : Nat → Int → Int) (R0 M : Nat → Int) : Nat → HST → HST
  | 0, s => s
  | i + 1, s => stC w h X Y n m c (F i) (R0 i) (M i) (itC w h X Y n m c F R0 M i s)
/-- taken again and again: t times -/
def TKS (w h : Int) (X Y : Int → Int) (n m c rch ill : Int) (f : Int → Int) (t : Nat) (F : Nat → Int → Int) (R0 M : Nat → Int) : Prop := F 0 = f ∧ ∀ i : Nat, i < t → TKO w h X Y n m c rch ill (F i) (F (i + 1)) (R0 i) (M i)
def sqU {α : Type} (F : Nat → α) (t : Nat) (v : α) : Nat → α := fun i => if i = t then v else F i
theorem itC_cong {w h n m c : Int} {X Y : Int → Int} {F F' : Nat → Int → Int} {R0 R0' M M' : Nat → Int} (s : HST) : ∀ t : Nat, (∀ i : Nat, i < t → F i = F' i ∧ R0 i = R0' i ∧ M i = M' i) → itC w h X Y n m c F R0 M t s = itC w h X Y n m c F' R0' M' t s := by
  intro t
  induction t with
  | zero => intro _; rfl
  | succ t ih =>
    intro hh
    have e := hh t (Nat.lt_succ_self t)
    rw [itC, itC, ih (fun i hi => hh i (by omega)), e.1, e.2.1, e.2.2]
theorem TKS_s {w h n m c rch ill r0 mn : Int} {X Y f f2 : Int → Int} {t : Nat} {F : Nat → Int → Int} {R0 M : Nat → Int} (H : TKS w h X Y n m c rch ill f t F R0 M) (H1 : TKO w h X Y n m c rch ill (F t) f2 r0 mn) : TKS w h X Y n m c rch ill f (t + 1) (sqU F (t + 1) f2) (sqU R0 t r0) (sqU M t mn) := by
  refine ⟨?_, fun i hi => ?_⟩
  · show sqU F (t + 1) f2 0 = f
    unfold sqU
    rw [if_neg (by omega)]
    exact H.1
  · unfold sqU
    by_cases e : i = t
    · subst e
      rw [if_neg (by omega), if_pos rfl, if_pos rfl, if_pos rfl]
      exact H1
    · rw [if_neg (by omega), if_neg (by omega), if_neg e, if_neg e]
      exact H.2 i (by omega)
theorem itC_s {w h n m c r0 mn : Int} {X Y f2 : Int → Int} {t : Nat} {F : Nat → Int → Int} {R0 M : Nat → Int} (s : HST) : itC w h X Y n m c (sqU F (t + 1) f2) (sqU R0 t r0) (sqU M t mn) (t + 1) s = stC w h X Y n m c (F t) r0 mn (itC w h X Y n m c F R0 M t s) := by
  rw [itC]
  have e1 : sqU F (t + 1) f2 t = F t := if_neg (by omega)
  have e2 : sqU R0 t r0 t = r0 := if_pos rfl
  have e3 : sqU M t mn t = mn := if_pos rfl
  rw [e1, e2, e3]
  congr 1
  exact itC_cong s t (fun i hi => ⟨if_neg (by omega), if_neg (by omega), if_neg (by omega)⟩)
/-- bits taken away -/
theorem tb_nat {a x : Nat} : tb (a : Int) (x : Int) = if a.testBit x then 1 else 0 := by
  unfold tb
  rw [Int.toNat_natCast, Nat.testBit_eq_decide_div_mod_eq]
  have : ((a : Int) / 2 ^ x % 2) = ((a / 2 ^ x % 2 : Nat) : Int) := by
    rw [Int.natCast_emod, Int.natCast_ediv, Int.natCast_pow]; rfl
  rw [this]
  by_cases e : a / 2 ^ x % 2 = 1
  · rw [e]; simp
  · have : a / 2 ^ x % 2 = 0 := by omega
    rw [this]; simp
theorem tb_an {a b x : Int} (ha : 0 ≤ a ∧ a ≤ 2047) (hb : 0 ≤ b ∧ b ≤ 2047) (hx : 0 ≤ x ∧ x < 11) : tb (anI a b) x = if tb b x = 1 then 0 else tb a x := by
  obtain ⟨p, rfl⟩ := Int.eq_ofNat_of_zero_le ha.1
  obtain ⟨q, rfl⟩ := Int.eq_ofNat_of_zero_le hb.1
  obtain ⟨u, rfl⟩ := Int.eq_ofNat_of_zero_le hx.1
  unfold anI
  rw [Int.toNat_natCast, Int.toNat_natCast, tb_nat, tb_nat, tb_nat, Nat.testBit_and, Nat.testBit_xor]
  have h11 : (2047 : Nat).testBit u = true := by
    rw [show (2047 : Nat) = 2 ^ 11 - 1 from rfl, Nat.testBit_two_pow_sub_one]
    exact decide_eq_true (by omega)
  rw [h11]
  cases p.testBit u <;> cases q.testBit u <;> rfl
theorem tb_xo {a x u : Int} (ha : 0 ≤ a ∧ a ≤ 2047) (hx : 0 ≤ x ∧ x < 11) (hu : 0 ≤ u ∧ u < 11) : tb (xoI a (2 ^ x.toNat)) u = if u = x then 1 - tb a u else tb a u := by
  obtain ⟨p, rfl⟩ := Int.eq_ofNat_of_zero_le ha.1
  obtain ⟨y, rfl⟩ := Int.eq_ofNat_of_zero_le hx.1
  obtain ⟨v, rfl⟩ := Int.eq_ofNat_of_zero_le hu.1
  have hp : (2 : Int) ^ ((y : Int)).toNat = ((2 ^ y : Nat) : Int) := by rw [Int.toNat_natCast]; simp
  unfold xoI
  rw [hp, Int.toNat_natCast, Int.toNat_natCast, tb_nat, tb_nat, Nat.testBit_xor, Nat.testBit_two_pow]
  by_cases e : y = v
  · subst e
    rw [if_pos rfl]
    cases p.testBit y <;> simp
  · rw [if_neg (show ¬ ((v : Int) = (y : Int)) by omega)]
    cases p.testBit v <;> simp [e]
theorem SOK_tk {w h n m c : Int} {f X Y G : Int → Int} (hG : ∀ k : Int, G k = 0 ∨ G k = 1) (H : SOK w h f X Y n m c) : SOK w h (fun k => anI (f k) (rowV G k)) X Y n m c := by
  obtain ⟨h1, h2, h3, h4, h5, h6, h7, h8, h9⟩ := H
  refine ⟨h1, h2, fun k a b => an_b (h3 k a b), fun y x a b c' d e => ?_, h5, h6, h7, h8, h9⟩
  show tb (anI (f y) (rowV G y)) x = 0
  rw [tb_an (h3 y a b) (rowV_b hG y) ⟨c', d⟩, h4 y x a b c' d e]
  split <;> rfl
theorem SOK_fl {w h n m c x y : Int} {f X Y : Int → Int} (hx : 0 ≤ x ∧ x < w ∧ 0 ≤ y ∧ y < h) (H : SOK w h f X Y n m c) : SOK w h (zU f y (xoI (f y) (2 ^ x.toNat))) X Y n m c := by
  obtain ⟨h1, h2, h3, h4, h5, h6, h7, h8, h9⟩ := H
  refine ⟨h1, h2, fl_b h3 (by omega) (by omega), fun v u a b c' d e => ?_, h5, h6, h7, h8, h9⟩
  by_cases q : v = y
  · rw [q, zU_eq, tb_xo (h3 y (by omega) (by omega)) (by omega) ⟨c', d⟩, if_neg (by omega)]
    exact h4 y u (by omega) (by omega) c' d (by omega)
  · rw [zU_ne _ _ q]
    exact h4 v u a b c' d e
