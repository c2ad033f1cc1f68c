/-! ===== edges counted ===== -/
theorem RSM_tb {w h n m c bs : Int} {f X Y N : Int → Int} (hS : SOK w h f X Y n m c) (H : RSM w h f X Y n m c bs N) {y x : Int} (hy : 0 ≤ y ∧ y < 11) (hx : 0 ≤ x ∧ x < 11) : N (11 * y + x) = tb (f y) x := by
  obtain ⟨sW, sH, sF, sO, -⟩ := hS
  rw [H.1 _ (by omega) (by omega), EE_at hx]
  unfold eA
  split
  · rfl
  · rename_i hq
    exact (sO y x hy.1 hy.2 hx.1 hx.2 (by omega)).symm
theorem RSM_edges {w h n m c bs : Int} {f X Y N : Int → Int} (hS : SOK w h f X Y n m c) (H : RSM w h f X Y n m c bs N) : sI N 121 = sI (fun k => popI (f k)) 11 := by
  have e := sum_rows N 11
  rw [show 11 * ((11 : Nat) : Int) = 121 from rfl, show ((11 : Nat) : Int) = 11 from rfl] at e
  rw [e]
  exact sI_cong (fun y a b => sI_cong (fun x c d => RSM_tb hS H ⟨a, b⟩ ⟨c, d⟩))
