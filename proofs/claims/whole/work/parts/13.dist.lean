/-! ===== how far the nearest edge is; the two passes find it ===== -/
def farM (E : Int → Int) (m c x y : Int) : Nat → Int
  | 0 => c
  | n + 1 => if E (n : Int) = 1 then min (farM E m c x y n) (dst m ((n : Int) % 11 - x) ((n : Int) / 11 - y)) else farM E m c x y n
def farS (E : Int → Int) (m c x y : Int) : Int := farM E m c x y 121
theorem farM_c (E : Int → Int) (m c x y : Int) : ∀ n : Nat, farM E m c x y n ≤ c := by
  intro n
  induction n with
  | zero => exact Int.le_refl _
  | succ n ih => unfold farM; split <;> omega
theorem farM_le (E : Int → Int) (m c x y : Int) : ∀ (n : Nat) (k : Int), 0 ≤ k → k < n → E k = 1 → farM E m c x y n ≤ dst m (k % 11 - x) (k / 11 - y) := by
  intro n
  induction n with
  | zero => intro k h0 h1; omega
  | succ n ih =>
    intro k h0 h1 he
    unfold farM
    by_cases hk : k = (n : Int)
    · subst hk; rw [if_pos he]; omega
    · have := ih k h0 (by omega) he
      split <;> omega
theorem farM_eq (E : Int → Int) (m c x y : Int) : ∀ (n : Nat), farM E m c x y n = c ∨ ∃ k : Int, 0 ≤ k ∧ k < n ∧ E k = 1 ∧ farM E m c x y n = dst m (k % 11 - x) (k / 11 - y) := by
  intro n
  induction n with
  | zero => exact Or.inl rfl
  | succ n ih =>
    unfold farM
    split
    · rename_i he
      by_cases hq : farM E m c x y n ≤ dst m ((n : Int) % 11 - x) ((n : Int) / 11 - y)
      · rw [Int.min_eq_left hq]
        rcases ih with h | ⟨k, h0, h1, h2, h3⟩
        · exact Or.inl h
        · exact Or.inr ⟨k, h0, by omega, h2, h3⟩
      · rw [Int.min_eq_right (by omega)]
        exact Or.inr ⟨n, by omega, by omega, he, rfl⟩
    · rcases ih with h | ⟨k, h0, h1, h2, h3⟩
      · exact Or.inl h
      · exact Or.inr ⟨k, h0, by omega, h2, h3⟩
theorem farM_cong {E E2 : Int → Int} (m c x y : Int) : ∀ (n : Nat), (∀ k : Int, 0 ≤ k → k < n → E k = E2 k) → farM E m c x y n = farM E2 m c x y n := by
  intro n
  induction n with
  | zero => intro _; rfl
  | succ n ih => intro h; unfold farM; rw [ih (fun k h0 h1 => h k h0 (by omega)), h n (by omega) (by omega)]
theorem farS_cong {E E2 : Int → Int} {m c x y : Int} (h : ∀ k : Int, 0 ≤ k → k < 121 → E k = E2 k) : farS E m c x y = farS E2 m c x y := farM_cong m c x y 121 h
theorem farS_one {E : Int → Int} {m c x y r : Int} (h1 : r ≤ c) (h2 : ∀ k : Int, 0 ≤ k → k < 121 → E k = 1 → r ≤ dst m (k % 11 - x) (k / 11 - y)) (h3 : farS E m c x y ≤ r) : r = farS E m c x y := by
  rcases farM_eq E m c x y 121 with h | ⟨k, k0, k1, k2, k3⟩
  · exact Int.le_antisymm (by unfold farS; omega) h3
  · have := h2 k k0 k1 k2
    exact Int.le_antisymm (by unfold farS; omega) h3
theorem dst_nn (m dx dy : Int) : 0 ≤ dst m dx dy := by
  unfold dst ab
  split
  · omega
  · split <;> omega
theorem farS_nn {E : Int → Int} {m c x y : Int} (hc : 0 ≤ c) : 0 ≤ farS E m c x y := by
  rcases farM_eq E m c x y 121 with h | ⟨k, -, -, -, h⟩
  · unfold farS; omega
  · unfold farS
    rw [h]
    exact dst_nn _ _ _
theorem farS_c (E : Int → Int) (m c x y : Int) : farS E m c x y ≤ c := farM_c E m c x y 121
def sA (m : Int) : Int := if m = 0 then 1 else if m = 1 then 1 else 3
def sB (m : Int) : Int := if m = 0 then 2 else if m = 1 then 1 else 4
theorem farS_lip {E : Int → Int} {m c x y x' y' st : Int} (hs : 0 ≤ st) (h : ∀ u v : Int, dst m (u - x) (v - y) ≤ dst m (u - x') (v - y') + st) : farS E m c x y ≤ farS E m c x' y' + st := by
  rcases farM_eq E m c x' y' 121 with h1 | ⟨k, k0, k1, k2, k3⟩
  · have := farS_c E m c x y
    unfold farS at *
    omega
  · have h4 := farM_le E m c x y 121 k k0 k1 k2
    have h5 := h (k % 11) (k / 11)
    unfold farS
    omega
theorem dst_A {m : Int} (hm : m = 0 ∨ m = 1 ∨ m = 2) {x y x' y' : Int} (h : (x' = x + 1 ∨ x' = x - 1) ∧ y' = y ∨ x' = x ∧ (y' = y + 1 ∨ y' = y - 1)) (u v : Int) : dst m (u - x) (v - y) ≤ dst m (u - x') (v - y') + sA m := by
  unfold dst ab sA
  rcases hm with rfl | rfl | rfl
  · simp only [if_true]; omega
  · simp only [if_true, show (1 : Int) ≠ 0 by decide, if_false]; omega
  · simp only [show (2 : Int) ≠ 0 by decide, show (2 : Int) ≠ 1 by decide, if_false]; omega
theorem dst_B {m : Int} (hm : m = 0 ∨ m = 1 ∨ m = 2) {x y x' y' : Int} (h : (x' = x + 1 ∨ x' = x - 1) ∧ (y' = y + 1 ∨ y' = y - 1)) (u v : Int) : dst m (u - x) (v - y) ≤ dst m (u - x') (v - y') + sB m := by
  unfold dst ab sB
  rcases hm with rfl | rfl | rfl
  · simp only [if_true]; omega
  · simp only [if_true, show (1 : Int) ≠ 0 by decide, if_false]; omega
  · simp only [show (2 : Int) ≠ 0 by decide, show (2 : Int) ≠ 1 by decide, if_false]; omega
theorem sAB {m : Int} (hm : m = 0 ∨ m = 1 ∨ m = 2) : 0 ≤ sA m ∧ sA m ≤ 3 ∧ 0 ≤ sB m ∧ sB m ≤ 4 := by
  unfold sA sB
  rcases hm with rfl | rfl | rfl <;> decide
/-- the edges by their number -/
def EE (w h : Int) (f : Int → Int) (k : Int) : Int := eA w h f (k % 11) (k / 11)
def ix (x y : Int) : Int := (y + 1) * 13 + x + 1
def ini (w h : Int) (f : Int → Int) (c x y : Int) : Int := if eA w h f x y = 1 then 0 else c
def LBd (w h : Int) (f : Int → Int) (m c : Int) (D : Int → Int) : Prop :=
  (∀ x y : Int, -1 ≤ x → x ≤ 11 → -1 ≤ y → y ≤ 11 → 0 ≤ D (ix x y) ∧ D (ix x y) ≤ c ∧ (¬ (0 ≤ x ∧ x < w ∧ 0 ≤ y ∧ y < h) → D (ix x y) = c)) ∧ ∀ x y : Int, 0 ≤ x → x < w → 0 ≤ y → y < h → farS (EE w h f) m c x y ≤ D (ix x y)
def FQ (a b : Int) (D : Int → Int) (x y : Int) : Prop := D (ix x y) ≤ D (ix (x - 1) y) + a ∧ D (ix x y) ≤ D (ix x (y - 1)) + a ∧ D (ix x y) ≤ D (ix (x - 1) (y - 1)) + b ∧ D (ix x y) ≤ D (ix (x + 1) (y - 1)) + b
def BQ (a b : Int) (D : Int → Int) (x y : Int) : Prop := D (ix x y) ≤ D (ix (x + 1) y) + a ∧ D (ix x y) ≤ D (ix x (y + 1)) + a ∧ D (ix x y) ≤ D (ix (x + 1) (y + 1)) + b ∧ D (ix x y) ≤ D (ix (x - 1) (y + 1)) + b
def stV (a b : Int) (D : Int → Int) (i sd : Int) : Int := min (D i) (min (min (D (i + sd)) (D (i + sd * 13)) + a) (min (D (i + sd * 13 - 1)) (D (i + sd * 13 + 1)) + b))
theorem stV_F (a b : Int) (D : Int → Int) (x y : Int) : stV a b D (ix x y) (-1) = min (D (ix x y)) (min (min (D (ix (x - 1) y)) (D (ix x (y - 1))) + a) (min (D (ix (x - 1) (y - 1))) (D (ix (x + 1) (y - 1))) + b)) := by
  unfold stV ix
  rw [show (y + 1) * 13 + x + 1 + -1 = (y + 1) * 13 + (x - 1) + 1 by omega, show (y + 1) * 13 + x + 1 + -1 * 13 = (y - 1 + 1) * 13 + x + 1 by omega, show (y - 1 + 1) * 13 + x + 1 - 1 = (y - 1 + 1) * 13 + (x - 1) + 1 by omega, show (y - 1 + 1) * 13 + x + 1 + 1 = (y - 1 + 1) * 13 + (x + 1) + 1 by omega]
theorem stV_B (a b : Int) (D : Int → Int) (x y : Int) : stV a b D (ix x y) 1 = min (D (ix x y)) (min (min (D (ix (x + 1) y)) (D (ix x (y + 1))) + a) (min (D (ix (x - 1) (y + 1))) (D (ix (x + 1) (y + 1))) + b)) := by
  unfold stV ix
  rw [show (y + 1) * 13 + x + 1 + 1 = (y + 1) * 13 + (x + 1) + 1 by omega, show (y + 1) * 13 + x + 1 + 1 * 13 = (y + 1 + 1) * 13 + x + 1 by omega, show (y + 1 + 1) * 13 + x + 1 - 1 = (y + 1 + 1) * 13 + (x - 1) + 1 by omega, show (y + 1 + 1) * 13 + x + 1 + 1 = (y + 1 + 1) * 13 + (x + 1) + 1 by omega]
theorem ix_ne {x y u v : Int} (hx : -1 ≤ x ∧ x ≤ 11) (hu : -1 ≤ u ∧ u ≤ 11) (h : ¬ (u = x ∧ v = y)) : ix u v ≠ ix x y := by
  unfold ix
  omega
theorem LB_step {w h m c : Int} {f D : Int → Int} {x y v : Int} (hw : w ≤ 11 ∧ h ≤ 11) (hx : 0 ≤ x ∧ x < w ∧ 0 ≤ y ∧ y < h) (hL : LBd w h f m c D) (h0 : 0 ≤ v) (h1 : v ≤ D (ix x y)) (h2 : farS (EE w h f) m c x y ≤ v) : LBd w h f m c (zU D (ix x y) v) := by
  refine ⟨fun u t a1 a2 a3 a4 => ?_, fun u t a1 a2 a3 a4 => ?_⟩
  · have q := hL.1 u t a1 a2 a3 a4
    by_cases e : u = x ∧ t = y
    · obtain ⟨rfl, rfl⟩ := e
      rw [zU_eq]
      exact ⟨h0, by omega, fun z => absurd hx z⟩
    · rw [zU_ne _ _ (ix_ne (by omega) (by omega) e)]
      exact q
  · by_cases e : u = x ∧ t = y
    · obtain ⟨rfl, rfl⟩ := e
      rw [zU_eq]
      exact h2
    · rw [zU_ne _ _ (ix_ne (by omega) (by omega) e)]
      exact hL.2 u t a1 a2 a3 a4
theorem LB_nb {w h m c : Int} {f D : Int → Int} {x y x' y' st : Int} (hw : w ≤ 11 ∧ h ≤ 11) (hs : 0 ≤ st) (hb : -1 ≤ x' ∧ x' ≤ 11 ∧ -1 ≤ y' ∧ y' ≤ 11) (hL : LBd w h f m c D) (hd : ∀ u v : Int, dst m (u - x) (v - y) ≤ dst m (u - x') (v - y') + st) : farS (EE w h f) m c x y ≤ D (ix x' y') + st := by
  by_cases q : 0 ≤ x' ∧ x' < w ∧ 0 ≤ y' ∧ y' < h
  · have h1 := hL.2 x' y' q.1 q.2.1 q.2.2.1 q.2.2.2
    have h2 := farS_lip (E := EE w h f) (c := c) hs hd
    omega
  · have h1 := (hL.1 x' y' hb.1 hb.2.1 hb.2.2.1 hb.2.2.2).2.2 q
    have h2 := farS_c (EE w h f) m c x y
    omega
/-- the first pass, ahead of the cell (x, y) -/
def FwI (w h : Int) (f : Int → Int) (m c : Int) (D : Int → Int) (x y : Int) : Prop :=
  LBd w h f m c D ∧ (∀ u v : Int, 0 ≤ u → u < w → 0 ≤ v → v < h → (v < y ∨ v = y ∧ u < x) → FQ (sA m) (sB m) D u v ∧ D (ix u v) ≤ ini w h f c u v) ∧ ∀ u v : Int, 0 ≤ u → u < w → 0 ≤ v → v < h → ¬ (v < y ∨ v = y ∧ u < x) → D (ix u v) = ini w h f c u v
theorem Fw_step {w h m c : Int} {f D : Int → Int} {x y : Int} (hw : w ≤ 11 ∧ h ≤ 11) (hm : m = 0 ∨ m = 1 ∨ m = 2) (hx : 0 ≤ x ∧ x < w ∧ 0 ≤ y ∧ y < h) (H : FwI w h f m c D x y) : FwI w h f m c (zU D (ix x y) (stV (sA m) (sB m) D (ix x y) (-1))) (x + 1) y := by
  obtain ⟨hL, h1, h2⟩ := H
  have hab := sAB hm
  rw [stV_F]
  have n0 := hL.1 x y (by omega) (by omega) (by omega) (by omega)
  have n1 := hL.1 (x - 1) y (by omega) (by omega) (by omega) (by omega)
  have n2 := hL.1 x (y - 1) (by omega) (by omega) (by omega) (by omega)
  have n3 := hL.1 (x - 1) (y - 1) (by omega) (by omega) (by omega) (by omega)
  have n4 := hL.1 (x + 1) (y - 1) (by omega) (by omega) (by omega) (by omega)
  have f0 := hL.2 x y hx.1 hx.2.1 hx.2.2.1 hx.2.2.2
  have f1 := LB_nb (x := x) (y := y) (x' := x - 1) (y' := y) hw hab.1 (by omega) hL (dst_A hm (by omega))
  have f2 := LB_nb (x := x) (y := y) (x' := x) (y' := y - 1) hw hab.1 (by omega) hL (dst_A hm (by omega))
  have f3 := LB_nb (x := x) (y := y) (x' := x - 1) (y' := y - 1) hw hab.2.2.1 (by omega) hL (dst_B hm (by omega))
  have f4 := LB_nb (x := x) (y := y) (x' := x + 1) (y' := y - 1) hw hab.2.2.1 (by omega) hL (dst_B hm (by omega))
  generalize hv : min (D (ix x y)) (min (min (D (ix (x - 1) y)) (D (ix x (y - 1))) + sA m) (min (D (ix (x - 1) (y - 1))) (D (ix (x + 1) (y - 1))) + sB m)) = v
  refine ⟨LB_step hw hx hL (by omega) (by omega) (by omega), fun u t a1 a2 a3 a4 a5 => ?_, fun u t a1 a2 a3 a4 a5 => ?_⟩
  · by_cases e : u = x ∧ t = y
    · obtain ⟨rfl, rfl⟩ := e
      have i0 := h2 u t a1 a2 a3 a4 (by omega)
      unfold FQ
      rw [zU_eq, zU_ne _ _ (ix_ne (by omega) (by omega) (by omega)), zU_ne _ _ (ix_ne (by omega) (by omega) (by omega)), zU_ne _ _ (ix_ne (by omega) (by omega) (by omega)), zU_ne _ _ (ix_ne (by omega) (by omega) (by omega))]
      omega
    · have := h1 u t a1 a2 a3 a4 (by omega)
      unfold FQ at this ⊢
      rw [zU_ne _ _ (ix_ne (by omega) (by omega) e), zU_ne _ _ (ix_ne (by omega) (by omega) (by omega)), zU_ne _ _ (ix_ne (by omega) (by omega) (by omega)), zU_ne _ _ (ix_ne (by omega) (by omega) (by omega)), zU_ne _ _ (ix_ne (by omega) (by omega) (by omega))]
      exact this
  · rw [zU_ne _ _ (ix_ne (by omega) (by omega) (by omega))]
    exact h2 u t a1 a2 a3 a4 (by omega)
theorem Fw_row {w h m c : Int} {f D : Int → Int} {x y : Int} (hx : w ≤ x) (H : FwI w h f m c D x y) : FwI w h f m c D 0 (y + 1) := by
  obtain ⟨hL, h1, h2⟩ := H
  exact ⟨hL, fun u v a1 a2 a3 a4 a5 => h1 u v a1 a2 a3 a4 (by omega), fun u v a1 a2 a3 a4 a5 => h2 u v a1 a2 a3 a4 (by omega)⟩
/-- behind the first pass: what lies in the cone of an edge -/
def Cone (w h : Int) (f : Int → Int) (m : Int) (D : Int → Int) : Prop := ∀ p q x y : Int, 0 ≤ p → p < w → 0 ≤ q → q < h → eA w h f p q = 1 → 0 ≤ x → x < w → q ≤ y → y < h → p - (y - q) ≤ x → D (ix x y) ≤ dst m (p - x) (q - y)
theorem dst_red {m : Int} (hm : m = 0 ∨ m = 1 ∨ m = 2) {dx dy ex ey st : Int} (h : (st = sB m ∧ ab dx = ab ex + 1 ∧ ab dy = ab ey + 1) ∨ (st = sA m ∧ ab dx = ab ex + 1 ∧ ab dy = ab ey ∧ ab ey ≤ ab ex) ∨ (st = sA m ∧ ab dx = ab ex ∧ ab dy = ab ey + 1 ∧ ab ex ≤ ab ey)) : dst m dx dy = dst m ex ey + st := by
  unfold dst
  generalize ab dx = A1 at *
  generalize ab dy = A2 at *
  generalize ab ex = A3 at *
  generalize ab ey = A4 at *
  unfold sA sB at h
  rcases hm with rfl | rfl | rfl
  · simp only [if_true] at h ⊢; omega
  · simp only [if_true, show (1 : Int) ≠ 0 by decide, if_false] at h ⊢; omega
  · simp only [show (2 : Int) ≠ 0 by decide, show (2 : Int) ≠ 1 by decide, if_false] at h ⊢; omega
theorem ab_c (x : Int) : (0 ≤ x ∧ ab x = x) ∨ (x < 0 ∧ ab x = -x) := by
  unfold ab
  split <;> omega
theorem dst_00 (m : Int) : dst m 0 0 = 0 := by
  unfold dst ab
  simp
theorem Fw_cone {w h m c : Int} {f D : Int → Int} (hm : m = 0 ∨ m = 1 ∨ m = 2) (H : FwI w h f m c D 0 h) : Cone w h f m D := by
  obtain ⟨hL, h1, -⟩ := H
  have key : ∀ (n : Nat) (p q x y : Int), 0 ≤ p → p < w → 0 ≤ q → q < h → eA w h f p q = 1 → 0 ≤ x → x < w → q ≤ y → y < h → p - (y - q) ≤ x → ab (p - x) + (y - q) < n → D (ix x y) ≤ dst m (p - x) (q - y) := by
    intro n
    induction n with
    | zero => intro p q x y a1 a2 a3 a4 a5 a6 a7 a8 a9 a10 hn; have := ab_c (p - x); omega
    | succ n ih =>
      intro p q x y a1 a2 a3 a4 a5 a6 a7 a8 a9 a10 hn
      have hq := h1 x y a6 a7 (by omega) a9 (by omega)
      unfold FQ at hq
      have c0 := ab_c (p - x)
      have c1 := ab_c (q - y)
      by_cases e0 : y = q
      · by_cases e1 : x = p
        · subst e0 e1
          have : ini w h f c x y = 0 := if_pos a5
          rw [Int.sub_self, Int.sub_self, dst_00]
          omega
        · have r := ih p q (x - 1) y a1 a2 a3 a4 a5 (by omega) (by omega) a8 a9 (by omega) (by have := ab_c (p - (x - 1)); omega)
          have c2 := ab_c (p - (x - 1))
          have := dst_red hm (dx := p - x) (dy := q - y) (ex := p - (x - 1)) (ey := q - y) (st := sA m) (by omega)
          omega
      · by_cases e1 : x < p
        · have c2 := ab_c (p - (x + 1))
          have c3 := ab_c (q - (y - 1))
          have r := ih p q (x + 1) (y - 1) a1 a2 a3 a4 a5 (by omega) (by omega) (by omega) (by omega) (by omega) (by omega)
          have := dst_red hm (dx := p - x) (dy := q - y) (ex := p - (x + 1)) (ey := q - (y - 1)) (st := sB m) (by omega)
          omega
        · by_cases e2 : x = p
          · have c3 := ab_c (q - (y - 1))
            have r := ih p q x (y - 1) a1 a2 a3 a4 a5 (by omega) (by omega) (by omega) (by omega) (by omega) (by omega)
            have := dst_red hm (dx := p - x) (dy := q - y) (ex := p - x) (ey := q - (y - 1)) (st := sA m) (by omega)
            omega
          · have c2 := ab_c (p - (x - 1))
            have c3 := ab_c (q - (y - 1))
            have r := ih p q (x - 1) (y - 1) a1 a2 a3 a4 a5 (by omega) (by omega) (by omega) (by omega) (by omega) (by omega)
            have := dst_red hm (dx := p - x) (dy := q - y) (ex := p - (x - 1)) (ey := q - (y - 1)) (st := sB m) (by omega)
            omega
  intro p q x y a1 a2 a3 a4 a5 a6 a7 a8 a9 a10
  exact key ((ab (p - x) + (y - q)).toNat + 1) p q x y a1 a2 a3 a4 a5 a6 a7 a8 a9 a10 (by have := ab_c (p - x); omega)
/-- the second pass, ahead of the cell (x, y) -/
def BwI (w h : Int) (f : Int → Int) (m c : Int) (D : Int → Int) (x y : Int) : Prop :=
  LBd w h f m c D ∧ Cone w h f m D ∧ ∀ u v : Int, 0 ≤ u → u < w → 0 ≤ v → v < h → (y < v ∨ v = y ∧ x < u) → BQ (sA m) (sB m) D u v
theorem Bw_start {w h m c : Int} {f D : Int → Int} (hm : m = 0 ∨ m = 1 ∨ m = 2) (H : FwI w h f m c D 0 h) : BwI w h f m c D (w - 1) (h - 1) := ⟨H.1, Fw_cone hm H, fun u v a1 a2 a3 a4 a5 => by omega⟩
theorem Bw_step {w h m c : Int} {f D : Int → Int} {x y : Int} (hw : w ≤ 11 ∧ h ≤ 11) (hm : m = 0 ∨ m = 1 ∨ m = 2) (hx : 0 ≤ x ∧ x < w ∧ 0 ≤ y ∧ y < h) (H : BwI w h f m c D x y) : BwI w h f m c (zU D (ix x y) (stV (sA m) (sB m) D (ix x y) 1)) (x - 1) y := by
  obtain ⟨hL, h1, h2⟩ := H
  have hab := sAB hm
  rw [stV_B]
  have n0 := hL.1 x y (by omega) (by omega) (by omega) (by omega)
  have n1 := hL.1 (x + 1) y (by omega) (by omega) (by omega) (by omega)
  have n2 := hL.1 x (y + 1) (by omega) (by omega) (by omega) (by omega)
  have n3 := hL.1 (x - 1) (y + 1) (by omega) (by omega) (by omega) (by omega)
  have n4 := hL.1 (x + 1) (y + 1) (by omega) (by omega) (by omega) (by omega)
  have f0 := hL.2 x y hx.1 hx.2.1 hx.2.2.1 hx.2.2.2
  have f1 := LB_nb (x := x) (y := y) (x' := x + 1) (y' := y) hw hab.1 (by omega) hL (dst_A hm (by omega))
  have f2 := LB_nb (x := x) (y := y) (x' := x) (y' := y + 1) hw hab.1 (by omega) hL (dst_A hm (by omega))
  have f3 := LB_nb (x := x) (y := y) (x' := x - 1) (y' := y + 1) hw hab.2.2.1 (by omega) hL (dst_B hm (by omega))
  have f4 := LB_nb (x := x) (y := y) (x' := x + 1) (y' := y + 1) hw hab.2.2.1 (by omega) hL (dst_B hm (by omega))
  generalize hv : min (D (ix x y)) (min (min (D (ix (x + 1) y)) (D (ix x (y + 1))) + sA m) (min (D (ix (x - 1) (y + 1))) (D (ix (x + 1) (y + 1))) + sB m)) = v
  refine ⟨LB_step hw hx hL (by omega) (by omega) (by omega), fun p q u t a1 a2 a3 a4 a5 a6 a7 a8 a9 a10 => ?_, fun u t a1 a2 a3 a4 a5 => ?_⟩
  · have r := h1 p q u t a1 a2 a3 a4 a5 a6 a7 a8 a9 a10
    by_cases e : u = x ∧ t = y
    · obtain ⟨rfl, rfl⟩ := e
      rw [zU_eq]
      omega
    · rw [zU_ne _ _ (ix_ne (by omega) (by omega) e)]
      exact r
  · by_cases e : u = x ∧ t = y
    · obtain ⟨rfl, rfl⟩ := e
      unfold BQ
      rw [zU_eq, zU_ne _ _ (ix_ne (by omega) (by omega) (by omega)), zU_ne _ _ (ix_ne (by omega) (by omega) (by omega)), zU_ne _ _ (ix_ne (by omega) (by omega) (by omega)), zU_ne _ _ (ix_ne (by omega) (by omega) (by omega))]
      omega
    · have := h2 u t a1 a2 a3 a4 (by omega)
      unfold BQ at this ⊢
      rw [zU_ne _ _ (ix_ne (by omega) (by omega) e), zU_ne _ _ (ix_ne (by omega) (by omega) (by omega)), zU_ne _ _ (ix_ne (by omega) (by omega) (by omega)), zU_ne _ _ (ix_ne (by omega) (by omega) (by omega)), zU_ne _ _ (ix_ne (by omega) (by omega) (by omega))]
      exact this
theorem Bw_row {w h m c : Int} {f D : Int → Int} {x y : Int} (hx : x < 0) (H : BwI w h f m c D x y) : BwI w h f m c D (w - 1) (y - 1) := by
  obtain ⟨hL, h1, h2⟩ := H
  exact ⟨hL, h1, fun u v a1 a2 a3 a4 a5 => h2 u v a1 a2 a3 a4 (by omega)⟩
/-- the field as it is worked out -/
def FLD (w h : Int) (f : Int → Int) (m c : Int) (D : Int → Int) : Prop := ∀ x y : Int, 0 ≤ x → x < w → 0 ≤ y → y < h → D (ix x y) = farS (EE w h f) m c x y
theorem Bw_end {w h m c : Int} {f D : Int → Int} {x y : Int} (hw : w ≤ 11 ∧ h ≤ 11) (hm : m = 0 ∨ m = 1 ∨ m = 2) (hy : y < 0) (H : BwI w h f m c D x y) : FLD w h f m c D := by
  obtain ⟨hL, h1, h2⟩ := H
  have key : ∀ (n : Nat) (p q x y : Int), 0 ≤ p → p < w → 0 ≤ q → q < h → eA w h f p q = 1 → 0 ≤ x → x < w → 0 ≤ y → y < h → ab (p - x) + ab (q - y) < n → D (ix x y) ≤ dst m (p - x) (q - y) := by
    intro n
    induction n with
    | zero => intro p q x y a1 a2 a3 a4 a5 a6 a7 a8 a9 hn; have := ab_c (p - x); have := ab_c (q - y); omega
    | succ n ih =>
      intro p q x y a1 a2 a3 a4 a5 a6 a7 a8 a9 hn
      have hq := h2 x y a6 a7 a8 a9 (by omega)
      unfold BQ at hq
      have c0 := ab_c (p - x)
      have c1 := ab_c (q - y)
      by_cases e0 : q ≤ y
      · by_cases e1 : p - (y - q) ≤ x
        · exact h1 p q x y a1 a2 a3 a4 a5 a6 a7 e0 a9 e1
        · have c2 := ab_c (p - (x + 1))
          have r := ih p q (x + 1) y a1 a2 a3 a4 a5 (by omega) (by omega) a8 a9 (by omega)
          have := dst_red hm (dx := p - x) (dy := q - y) (ex := p - (x + 1)) (ey := q - y) (st := sA m) (by omega)
          omega
      · have c3 := ab_c (q - (y + 1))
        by_cases e1 : p < x
        · have c2 := ab_c (p - (x - 1))
          have r := ih p q (x - 1) (y + 1) a1 a2 a3 a4 a5 (by omega) (by omega) (by omega) (by omega) (by omega)
          have := dst_red hm (dx := p - x) (dy := q - y) (ex := p - (x - 1)) (ey := q - (y + 1)) (st := sB m) (by omega)
          omega
        · by_cases e2 : x = p
          · have r := ih p q x (y + 1) a1 a2 a3 a4 a5 (by omega) (by omega) (by omega) (by omega) (by omega)
            have := dst_red hm (dx := p - x) (dy := q - y) (ex := p - x) (ey := q - (y + 1)) (st := sA m) (by omega)
            omega
          · have c2 := ab_c (p - (x + 1))
            by_cases e3 : q - y < p - x
            · have r := ih p q (x + 1) y a1 a2 a3 a4 a5 (by omega) (by omega) a8 a9 (by omega)
              have := dst_red hm (dx := p - x) (dy := q - y) (ex := p - (x + 1)) (ey := q - y) (st := sA m) (by omega)
              omega
            · have r := ih p q (x + 1) (y + 1) a1 a2 a3 a4 a5 (by omega) (by omega) (by omega) (by omega) (by omega)
              have := dst_red hm (dx := p - x) (dy := q - y) (ex := p - (x + 1)) (ey := q - (y + 1)) (st := sB m) (by omega)
              omega
  intro x y a1 a2 a3 a4
  refine farS_one ((hL.1 x y (by omega) (by omega) (by omega) (by omega)).2.1) (fun k k0 k1 k2 => ?_) (hL.2 x y a1 a2 a3 a4)
  have hin : 0 ≤ k % 11 ∧ k % 11 < w ∧ 0 ≤ k / 11 ∧ k / 11 < h := by
    by_cases q : 0 ≤ k % 11 ∧ k % 11 < w ∧ 0 ≤ k / 11 ∧ k / 11 < h
    · exact q
    · unfold EE eA at k2
      rw [if_neg q] at k2
      omega
  exact key ((ab (k % 11 - x) + ab (k / 11 - y)).toNat + 1) (k % 11) (k / 11) x y hin.1 hin.2.1 hin.2.2.1 hin.2.2.2 k2 a1 a2 a3 a4 (by have := ab_c (k % 11 - x); have := ab_c (k / 11 - y); omega)
