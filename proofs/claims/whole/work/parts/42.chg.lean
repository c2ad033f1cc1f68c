/-! ===== a change on both sides ===== -/
theorem tb_bit (v x : Int) : tb v x = 0 ∨ tb v x = 1 := by
  unfold tb
  omega
theorem RSM_edge {w h n m c bs x y q : Int} {f X Y N : Int → Int} (hS : SOK w h f X Y n m c) (hin : 0 ≤ x ∧ x < w ∧ 0 ≤ y ∧ y < h) (hq : 0 ≤ q ∧ q ≤ 1) (hne : ¬ eA w h f x y = q) (H : RSM w h f X Y n m c bs N) : RSM w h (zU f y (xoI (f y) (2 ^ x.toNat))) X Y n m c bs (zU N (11 * y + x) q) := by
  obtain ⟨sW, sH, sF, sO, sN, -⟩ := hS
  obtain ⟨h1, h2, h3, h4, h5, h6⟩ := H
  refine ⟨fun k a b => ?_, by rw [zU_ne _ _ (by omega)]; exact h2, fun d a b => by rw [zU_ne _ _ (by omega), zU_ne _ _ (by omega)]; exact h3 d a b, by rw [zU_ne _ _ (by omega)]; exact h4, by rw [zU_ne _ _ (by omega)]; exact h5, by rw [zU_ne _ _ (by omega)]; exact h6⟩
  have hfy := sF y (by omega) (by omega)
  by_cases e : k = 11 * y + x
  · rw [e, zU_eq, EE_at (by omega)]
    unfold eA at hne ⊢
    rw [if_pos hin] at hne ⊢
    rw [zU_eq, tb_xo hfy (by omega) (by omega), if_pos rfl]
    have := tb_bit (f y) x
    omega
  · rw [zU_ne _ _ e, h1 k a b]
    unfold EE eA
    by_cases g : 0 ≤ k % 11 ∧ k % 11 < w ∧ 0 ≤ k / 11 ∧ k / 11 < h
    · rw [if_pos g, if_pos g]
      by_cases ey : k / 11 = y
      · rw [ey, zU_eq, tb_xo hfy (by omega) (by omega), if_neg (by omega)]
      · rw [zU_ne _ _ ey]
    · rw [if_neg g, if_neg g]
theorem MOK_edge {w h x y q : Int} {N : Int → Int} (hin : 0 ≤ x ∧ x < w ∧ 0 ≤ y ∧ y < h) (hq : 0 ≤ q ∧ q ≤ 1) (H : MOK w h N) : MOK w h (zU N (11 * y + x) q) := by
  obtain ⟨nW, nH, n1, nO, nn, nX, nY, nM, nC, nT⟩ := H
  refine ⟨nW, nH, fun k a b => ?_, fun k a b c => ?_, by rw [zU_ne _ _ (by omega)]; exact nn, fun d a b => by rw [zU_ne _ _ (by omega)]; exact nX d a b, fun d a b => by rw [zU_ne _ _ (by omega)]; exact nY d a b, by rw [zU_ne _ _ (by omega)]; exact nM, by rw [zU_ne _ _ (by omega)]; exact nC, by rw [zU_ne _ _ (by omega)]; exact nT⟩
  · by_cases e : k = 11 * y + x
    · rw [e, zU_eq]; omega
    · rw [zU_ne _ _ e]; exact n1 k a b
  · rw [zU_ne _ _ (by omega)]; exact nO k a b c
theorem RSM_met {w h n m c bs x y : Int} {f X Y N : Int → Int} (hn : n ≤ 10) (H : RSM w h f X Y n m c bs N) : RSM w h f X Y n x y bs (zU (zU N 142 x) 143 y) := by
  obtain ⟨h1, h2, h3, h4, h5, h6⟩ := H
  have hz : ∀ j : Int, j ≠ 142 → j ≠ 143 → zU (zU N 142 x) 143 y j = N j := fun j a b => by rw [zU_ne _ _ b, zU_ne _ _ a]
  exact ⟨fun k a b => by rw [hz k (by omega) (by omega)]; exact h1 k a b, by rw [hz _ (by decide) (by decide)]; exact h2, fun d a b => by rw [hz _ (by omega) (by omega), hz _ (by omega) (by omega)]; exact h3 d a b, by rw [zU_ne _ _ (by decide), zU_eq], zU_eq _ _ _, by rw [hz _ (by decide) (by decide)]; exact h6⟩
theorem MOK_met {w h x y : Int} {N : Int → Int} (hx : 0 ≤ x ∧ x ≤ 2) (hy : 1 ≤ y ∧ y ≤ 99) (H : MOK w h N) : MOK w h (zU (zU N 142 x) 143 y) := by
  obtain ⟨nW, nH, n1, nO, nn, nX, nY, nM, nC, nT⟩ := H
  have hz : ∀ j : Int, j ≠ 142 → j ≠ 143 → zU (zU N 142 x) 143 y j = N j := fun j a b => by rw [zU_ne _ _ b, zU_ne _ _ a]
  exact ⟨nW, nH, fun k a b => by rw [hz k (by omega) (by omega)]; exact n1 k a b, fun k a b c => by rw [hz k (by omega) (by omega)]; exact nO k a b c, by rw [hz _ (by decide) (by decide)]; exact nn, fun d a b => by rw [hz _ (by omega) (by omega)]; exact nX d a b, fun d a b => by rw [hz _ (by omega) (by omega)]; exact nY d a b, by rw [zU_ne _ _ (by decide), zU_eq]; exact hx, by rw [zU_eq]; exact hy, by rw [hz _ (by decide) (by decide)]; exact nT⟩
theorem RSM_dot {w h n m c bs x y : Int} {f X Y N : Int → Int} (hn : 0 ≤ n ∧ n < 10) (H : RSM w h f X Y n m c bs N) : RSM w h f (zU X n x) (zU Y n y) (n + 1) m c bs (cnR N x y) := by
  obtain ⟨h1, h2, h3, h4, h5, h6⟩ := H
  have hN : 0 ≤ N 141 ∧ N 141 < 10 := by omega
  refine ⟨fun k a b => by rw [cnR_lo hN (by omega)]; exact h1 k a b, by rw [cnR_n, h2], fun d a b => ?_, by rw [cnR_lo hN (by omega)]; exact h4, by rw [cnR_lo hN (by omega)]; exact h5, by rw [cnR_lo hN (by omega)]; exact h6⟩
  rw [cnR_X hN (by omega), cnR_Y hN (by omega), h2]
  by_cases e : d = n
  · rw [if_pos e, if_pos e, e, zU_eq, zU_eq]; exact ⟨rfl, rfl⟩
  · rw [if_neg e, if_neg e, zU_ne _ _ e, zU_ne _ _ e]; exact h3 d a (by omega)
theorem MOK_dot {w h x y : Int} {N : Int → Int} (hx : -5 ≤ x ∧ x ≤ 5) (hy : -5 ≤ y ∧ y ≤ 5) (hn : N 141 < 10) (H : MOK w h N) : MOK w h (cnR N x y) := by
  obtain ⟨nW, nH, n1, nO, nn, nX, nY, nM, nC, nT⟩ := H
  have hN : 0 ≤ N 141 ∧ N 141 < 10 := by omega
  refine ⟨nW, nH, fun k a b => by rw [cnR_lo hN (by omega)]; exact n1 k a b, fun k a b c => by rw [cnR_lo hN (by omega)]; exact nO k a b c, by rw [cnR_n]; omega, fun d a b => ?_, fun d a b => ?_, by rw [cnR_lo hN (by omega)]; exact nM, by rw [cnR_lo hN (by omega)]; exact nC, by rw [cnR_lo hN (by omega)]; exact nT⟩
  · rw [cnR_X hN (by omega)]; split; exact hx; exact nX d a b
  · rw [cnR_Y hN (by omega)]; split; exact hy; exact nY d a b
