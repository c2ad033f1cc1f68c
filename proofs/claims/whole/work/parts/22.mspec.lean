/-! ===== the reference's rows ===== -/
def MOK (wi hi : Int) (N : Int → Int) : Prop :=
  (4 ≤ wi ∧ wi ≤ 11) ∧ (4 ≤ hi ∧ hi ≤ 11) ∧ (∀ k : Int, 0 ≤ k → k < 121 → N k = 0 ∨ N k = 1) ∧ (∀ k : Int, 0 ≤ k → k < 121 → (wi ≤ k % 11 ∨ hi ≤ k / 11) → N k = 0) ∧ (1 ≤ N 141 ∧ N 141 ≤ 10) ∧ (∀ d : Int, 0 ≤ d → d < 10 → -5 ≤ N (121 + d) ∧ N (121 + d) ≤ 5) ∧ (∀ d : Int, 0 ≤ d → d < 10 → -5 ≤ N (131 + d) ∧ N (131 + d) ≤ 5) ∧ (0 ≤ N 142 ∧ N 142 ≤ 2) ∧ (1 ≤ N 143 ∧ N 143 ≤ 99) ∧ (0 ≤ N 144 ∧ N 144 ≤ 8)
def sgO (v : Int) : Int := if 48 ≤ v ∧ v ≤ 57 then v - 48 else if v = 97 then 10 else if v = 98 then 11 else -4
theorem sgO_sdO (v : Int) : ((4 ≤ sgO v ∧ sgO v ≤ 11) ↔ (4 ≤ sdO v ∧ sdO v ≤ 11)) ∧ ((4 ≤ sgO v ∧ sgO v ≤ 11) → sgO v = sdO v) := by
  unfold sgO sdO
  omega
def cnR (R : Int → Int) (x y : Int) : Int → Int := zU (zU (zU R (121 + R 141) x) (131 + R 141) y) 141 (R 141 + 1)
/-- the reference's copy of a row of changes -/
def cpC (N Cg : Int → Int) (ca i : Int) : Int → Int := fun j => if 145 * ca ≤ j ∧ j < 145 * ca + i then N (j - 145 * ca) else Cg j
theorem cpC_0 (N Cg : Int → Int) (ca : Int) : cpC N Cg ca 0 = Cg := by
  funext j
  exact if_neg (by omega)
theorem cpC_s (N Cg : Int → Int) {ca i : Int} (h : 0 ≤ i) : zU (cpC N Cg ca i) (145 * ca + i) (N i) = cpC N Cg ca (i + 1) := by
  funext j
  unfold zU cpC
  by_cases e : j = 145 * ca + i
  · rw [if_pos e, if_pos (by omega), show j - 145 * ca = i by omega]
  · rw [if_neg e]
    by_cases q : 145 * ca ≤ j ∧ j < 145 * ca + i
    · rw [if_pos q, if_pos (by omega)]
    · rw [if_neg q, if_neg (by omega)]
/-- a dot dropped -/
def drN (N : Int → Int) (d j : Int) : Int → Int := fun i => if i = 141 then N 141 - 1 else if 121 + d ≤ i ∧ i < 121 + j then N (i + 1) else if 131 + d ≤ i ∧ i < 131 + j then N (i + 1) else N i
theorem drN_0 (N : Int → Int) (d : Int) : zU N 141 (N 141 - 1) = drN N d d := by
  funext i
  unfold zU drN
  by_cases e : i = 141
  · rw [if_pos e, if_pos e]
  · rw [if_neg e, if_neg e, if_neg (by omega), if_neg (by omega)]
theorem drN_s (N : Int → Int) {d j : Int} (h : 0 ≤ d ∧ d ≤ j ∧ j < 9) : zU (zU (drN N d j) (121 + j) (drN N d j (121 + j + 1))) (131 + j) (zU (drN N d j) (121 + j) (drN N d j (121 + j + 1)) (131 + j + 1)) = drN N d (j + 1) := by
  have e1 : drN N d j (121 + j + 1) = N (121 + j + 1) := by
    unfold drN
    rw [if_neg (by omega), if_neg (by omega), if_neg (by omega)]
  have e2 : zU (drN N d j) (121 + j) (drN N d j (121 + j + 1)) (131 + j + 1) = N (131 + j + 1) := by
    rw [zU_ne _ _ (by omega)]
    unfold drN
    rw [if_neg (by omega), if_neg (by omega), if_neg (by omega)]
  rw [e1] at e2 ⊢
  rw [e2]
  funext i
  unfold zU drN
  by_cases a1 : i = 131 + j
  · rw [if_pos a1, if_neg (by omega), if_neg (by omega), if_pos (by omega), show i + 1 = 131 + j + 1 by omega]
  · rw [if_neg a1]
    by_cases a2 : i = 121 + j
    · rw [if_pos a2, if_neg (by omega), if_pos (by omega), show i + 1 = 121 + j + 1 by omega]
    · rw [if_neg a2]
      by_cases a3 : i = 141
      · rw [if_pos a3, if_pos a3]
      · rw [if_neg a3, if_neg a3]
        by_cases a4 : 121 + d ≤ i ∧ i < 121 + j
        · rw [if_pos a4, if_pos (by omega)]
        · rw [if_neg a4, if_neg (show ¬ (121 + d ≤ i ∧ i < 121 + (j + 1)) by omega)]
          by_cases a5 : 131 + d ≤ i ∧ i < 131 + j
          · rw [if_pos a5, if_pos (by omega)]
          · rw [if_neg a5, if_neg (by omega)]
theorem dst_neg (m a b : Int) : dst m (-a) (-b) = dst m a b := by
  have h : ∀ x : Int, ab (-x) = ab x := by
    intro x
    unfold ab
    omega
  unfold dst
  rw [h, h]
theorem dst_sw (m a b c d : Int) : dst m (a - b) (c - d) = dst m (b - a) (d - c) := by
  rw [show a - b = -(b - a) by omega, show c - d = -(d - c) by omega, dst_neg]
/-- the nearest edge's number, of those ahead of K -/
def NQP (E : Int → Int) (m x y K r ls : Int) : Prop := (r = -4 ∧ ∀ k : Int, 0 ≤ k → k < K → ¬ E k = 1) ∨ (0 ≤ r ∧ r < K ∧ E r = 1 ∧ ls = dst m (r % 11 - x) (r / 11 - y) ∧ (∀ j : Int, 0 ≤ j → j < K → E j = 1 → ls ≤ dst m (j % 11 - x) (j / 11 - y)) ∧ ∀ j : Int, 0 ≤ j → j < r → E j = 1 → ls < dst m (j % 11 - x) (j / 11 - y))
theorem NQP_new {E : Int → Int} {m x y K r ls : Int} (hK : 0 ≤ K) (he : E K = 1) (hl : r = -4 ∨ dst m (K % 11 - x) (K / 11 - y) < ls) (H : NQP E m x y K r ls) : NQP E m x y (K + 1) K (dst m (K % 11 - x) (K / 11 - y)) := by
  refine Or.inr ⟨hK, by omega, he, rfl, fun j a b c => ?_, fun j a b c => ?_⟩
  · by_cases e : j = K
    · rw [e]; omega
    · rcases H with ⟨-, h3⟩ | ⟨h0, h1, -, -, h6, -⟩
      · exact absurd c (h3 j a (by omega))
      · have := h6 j a (by omega) c; omega
  · rcases H with ⟨-, h3⟩ | ⟨h0, h1, -, -, h6, -⟩
    · exact absurd c (h3 j a (by omega))
    · have := h6 j a (by omega) c; omega
theorem NQP_old {E : Int → Int} {m x y K r ls : Int} (hl : E K = 1 → ¬ r = -4 ∧ ls ≤ dst m (K % 11 - x) (K / 11 - y)) (H : NQP E m x y K r ls) : NQP E m x y (K + 1) r ls := by
  rcases H with ⟨h1, h3⟩ | ⟨h0, h1, h2, h3, h4, h5⟩
  · refine Or.inl ⟨h1, fun k a b e => ?_⟩
    by_cases q : k = K
    · rw [q] at e
      exact (hl e).1 h1
    · exact h3 k a (by omega) e
  · refine Or.inr ⟨h0, by omega, h2, h3, fun j a b c => ?_, h5⟩
    by_cases q : j = K
    · rw [q] at c ⊢; exact (hl c).2
    · exact h4 j a (by omega) c
theorem NQP_far {E : Int → Int} {m c x y r ls : Int} (H : NQP E m x y 121 r ls) : farS E m c x y = if r = -4 then c else min (dst m (r % 11 - x) (r / 11 - y)) c := by
  rcases H with ⟨h1, h3⟩ | ⟨h0, h1, h2, h3, h4, h5⟩
  · rw [if_pos h1]
    rcases farM_eq E m c x y 121 with e | ⟨k, k0, k1, k2, k3⟩
    · exact e
    · exact absurd k2 (h3 k k0 k1)
  · rw [if_neg (by omega)]
    have e1 := farM_le E m c x y 121 r h0 h1 h2
    have e2 := farS_c E m c x y
    rcases farM_eq E m c x y 121 with e | ⟨k, k0, k1, k2, k3⟩
    · unfold farS at *; omega
    · have := h4 k k0 k1 k2
      unfold farS at *; omega
theorem NQP_end {E : Int → Int} {m x y r ls : Int} (H : NQP E m x y 121 r ls) : NRS E m x y (if r = -4 then -4 else 100 * (r / 11) + r % 11) := by
  rcases H with ⟨h1, h3⟩ | ⟨h0, h1, h2, h3, h4, h5⟩
  · rw [if_pos h1]; exact Or.inl ⟨rfl, h3⟩
  · rw [if_neg (by omega)]
    exact Or.inr ⟨r, h0, h1, h2, rfl, fun j a b c => by rw [← h3]; exact h4 j a b c, fun j a b c => by rw [← h3]; exact h5 j a b c⟩
theorem z_shr1 {v : Int} (h : -2147483648 ≤ v ∧ v ≤ 2147483647) : zI v >>> (zI 1 &&& 31) = zI (v / 2) := by
  apply Int32.toInt_inj.mp
  rw [pk_shr _ _ 1 (by decide), zI_toInt h, zI_toInt (by omega), Int.shiftRight_eq_div_pow]
  rfl
/-- the greatest, from -1 on -/
def mxM (F : Int → Int) : Nat → Int
  | 0 => -1
  | k + 1 => if mxM F k < F (k : Int) then F (k : Int) else mxM F k
def wdM (F : Int → Int) (w0 : Int) : Nat → Int
  | 0 => w0
  | k + 1 => if mxM F k < F (k : Int) then (k : Int) else wdM F w0 k
theorem mxM_s (F : Int → Int) {i : Int} (h : 0 ≤ i) : mxM F (i + 1).toNat = if mxM F i.toNat < F i then F i else mxM F i.toNat := by
  obtain ⟨n, rfl⟩ := Int.eq_ofNat_of_zero_le h
  rw [show ((n : Int) + 1).toNat = n + 1 by omega, Int.toNat_natCast]
  rfl
theorem wdM_s (F : Int → Int) (w0 : Int) {i : Int} (h : 0 ≤ i) : wdM F w0 (i + 1).toNat = if mxM F i.toNat < F i then i else wdM F w0 i.toNat := by
  obtain ⟨n, rfl⟩ := Int.eq_ofNat_of_zero_le h
  rw [show ((n : Int) + 1).toNat = n + 1 by omega, Int.toNat_natCast]
  rfl
theorem mxM_I {F : Int → Int} (w0 : Int) : ∀ k : Nat, (∀ d : Int, 0 ≤ d → d < (k : Int) + 1 → 0 ≤ F d) → mxM F (k + 1) = mxI F ((k : Int) + 1) ∧ wdM F w0 (k + 1) = wdI F ((k : Int) + 1) := by
  intro k
  induction k with
  | zero =>
    intro h
    have h0 := h 0 (by decide) (by decide)
    refine ⟨?_, ?_⟩
    · show (if (-1 : Int) < F 0 then F 0 else -1) = (if (0 : Int) < F 0 then F 0 else 0)
      rw [if_pos (by omega)]
      split <;> omega
    · show (if (-1 : Int) < F 0 then (0 : Int) else w0) = (if (0 : Int) < F 0 then (0 : Int) else 0)
      rw [if_pos (by omega)]
      split <;> rfl
  | succ k ih =>
    intro h
    have e := ih (fun d a b => h d a (by omega))
    refine ⟨?_, ?_⟩
    · rw [show (((k + 1 : Nat) : Int) + 1) = ((k : Int) + 1) + 1 by omega, mxI_s _ (by omega), mxM, e.1, show (((k + 1 : Nat) : Int)) = (k : Int) + 1 by omega]
    · rw [show (((k + 1 : Nat) : Int) + 1) = ((k : Int) + 1) + 1 by omega, wdI_s _ (by omega), wdM, e.1, e.2, show (((k + 1 : Nat) : Int)) = (k : Int) + 1 by omega]
theorem mxM_n {F : Int → Int} (w0 : Int) {n : Int} (hn : 1 ≤ n) (h : ∀ d : Int, 0 ≤ d → d < n → 0 ≤ F d) : mxM F n.toNat = mxI F n ∧ wdM F w0 n.toNat = wdI F n := by
  have := mxM_I (F := F) w0 (n.toNat - 1) (fun d a b => h d a (by omega))
  rw [show n.toNat - 1 + 1 = n.toNat by omega, show (((n.toNat - 1 : Nat) : Int) + 1) = n by omega] at this
  exact this
theorem mxM_b {F : Int → Int} {lo hi : Int} (hl : lo ≤ -1 ∧ -1 ≤ hi) : ∀ k : Nat, (∀ d : Int, 0 ≤ d → d < k → lo ≤ F d ∧ F d ≤ hi) → lo ≤ mxM F k ∧ mxM F k ≤ hi := by
  intro k
  induction k with
  | zero => intro _; exact hl
  | succ k ih =>
    intro h
    have h1 := ih (fun d a b => h d a (by omega))
    have h2 := h k (by omega) (by omega)
    unfold mxM
    split <;> omega
/-- dots of the reference's row -/
def XM (N : Int → Int) : Int → Int := fun d => N (121 + d)
def YM (N : Int → Int) : Int → Int := fun d => N (131 + d)
def LXM (N : Int → Int) (s t f : Int) : Int → Int := fun d => lX s t f (N (121 + d)) (N (131 + d))
def LYM (N : Int → Int) (s t f : Int) : Int → Int := fun d => lY s t f (N (121 + d)) (N (131 + d))
def gFM (Fa P Q : Int → Int) (x y : Int) : Int → Int := fun d => Fa (11 * (y + Q d) + (x + P d))
theorem sum_rows (G : Int → Int) : ∀ y : Nat, sI G (11 * (y : Int)) = sI (fun v => sI (fun u => G (11 * v + u)) 11) y := by
  have inner : ∀ (b : Int), 0 ≤ b → ∀ u : Nat, sI G (b + u) = sI G b + sI (fun t => G (b + t)) u := by
    intro b hb u
    induction u with
    | zero => rw [show ((0 : Nat) : Int) = 0 from rfl, Int.add_zero, sI_0, Int.add_zero]
    | succ u ih => rw [show b + ((u + 1 : Nat) : Int) = (b + u) + 1 by omega, sI_s _ (by omega), ih, show ((u + 1 : Nat) : Int) = (u : Int) + 1 by omega, sI_s _ (by omega)]; omega
  intro y
  induction y with
  | zero => rfl
  | succ y ih =>
    rw [show 11 * ((y + 1 : Nat) : Int) = 11 * (y : Int) + ((11 : Nat) : Int) by omega, inner _ (by omega), ih, show ((y + 1 : Nat) : Int) = (y : Int) + 1 by omega, sI_s _ (by omega)]
    rfl
theorem sI_more {f : Int → Int} {w : Int} (hw : 0 ≤ w) : ∀ u : Nat, (∀ k : Int, w ≤ k → k < w + u → f k = 0) → sI f (w + u) = sI f w := by
  intro u
  induction u with
  | zero => intro _; rw [show ((0 : Nat) : Int) = 0 from rfl, Int.add_zero]
  | succ u ih =>
    intro h
    rw [show w + ((u + 1 : Nat) : Int) = (w + u) + 1 by omega, sI_s _ (by omega), ih (fun k a b => h k a (by omega)), h (w + u) (by omega) (by omega), Int.add_zero]
theorem sI_cut {f : Int → Int} {w n : Int} (hw : 0 ≤ w ∧ w ≤ n) (h : ∀ k : Int, w ≤ k → k < n → f k = 0) : sI f n = sI f w := by
  have := sI_more (f := f) hw.1 (n - w).toNat (fun k a b => h k a (by omega))
  rw [show w + ((n - w).toNat : Int) = n by omega] at this
  exact this
theorem sum_121 {w h : Int} {G : Int → Int} {G2 : Int → Int → Int} (hw : 0 ≤ w ∧ w ≤ 11) (hh : 0 ≤ h ∧ h ≤ 11) (hi : ∀ u v : Int, 0 ≤ u → u < w → 0 ≤ v → v < h → G (11 * v + u) = G2 u v) (ho : ∀ k : Int, 0 ≤ k → k < 121 → (w ≤ k % 11 ∨ h ≤ k / 11) → G k = 0) : sI G 121 = sum2 w h G2 := by
  have e := sum_rows G 11
  rw [show 11 * ((11 : Nat) : Int) = 121 from rfl, show ((11 : Nat) : Int) = 11 from rfl] at e
  rw [e]
  unfold sum2
  rw [sI_cut (w := h) hh (fun v a b => by
    rw [sI_cut (w := 0) (by decide) (fun u c d => ho (11 * v + u) (by omega) (by omega) (by omega))]
    rfl)]
  refine sI_cong (fun v a b => ?_)
  rw [sI_cut (w := w) hw (fun u c d => ho (11 * v + u) (by omega) (by omega) (by omega))]
  exact sI_cong (fun u c d => hi u v c d a b)
