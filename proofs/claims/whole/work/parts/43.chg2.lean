theorem drN_lo {N : Int → Int} {d j k : Int} (hj : j ≤ 9) (hd : 0 ≤ d) (h : k < 121 ∨ 142 ≤ k) : drN N d j k = N k := by
  unfold drN
  rw [if_neg (by omega), if_neg (by omega), if_neg (by omega)]
theorem drN_X {N : Int → Int} {d j k : Int} (hj : j ≤ 9) (hd : 0 ≤ d) (hk : 0 ≤ k ∧ k < 10) : drN N d j (121 + k) = if d ≤ k ∧ k < j then N (121 + (k + 1)) else N (121 + k) := by
  unfold drN
  rw [if_neg (by omega)]
  by_cases e : d ≤ k ∧ k < j
  · rw [if_pos (by omega), if_pos e, show 121 + k + 1 = 121 + (k + 1) by omega]
  · rw [if_neg (by omega), if_neg (by omega), if_neg e]
theorem drN_Y {N : Int → Int} {d j k : Int} (hj : j ≤ 9) (hd : 0 ≤ d) (hk : 0 ≤ k ∧ k < 10) : drN N d j (131 + k) = if d ≤ k ∧ k < j then N (131 + (k + 1)) else N (131 + k) := by
  unfold drN
  rw [if_neg (by omega), if_neg (by omega)]
  by_cases e : d ≤ k ∧ k < j
  · rw [if_pos (by omega), if_pos e, show 131 + k + 1 = 131 + (k + 1) by omega]
  · rw [if_neg (by omega), if_neg e]
theorem RSM_drop {w h n m c bs d : Int} {f X Y N : Int → Int} (hn : 1 ≤ n ∧ n ≤ 10) (hd : 0 ≤ d ∧ d < n) (H : RSM w h f X Y n m c bs N) : RSM w h f (rmI X d n) (rmI Y d n) (n - 1) m c bs (drN N d (N 141 - 1)) := by
  obtain ⟨h1, h2, h3, h4, h5, h6⟩ := H
  rw [h2]
  refine ⟨fun k a b => by rw [drN_lo (by omega) hd.1 (by omega)]; exact h1 k a b, ?_, fun k a b => ?_, by rw [drN_lo (by omega) hd.1 (by omega)]; exact h4, by rw [drN_lo (by omega) hd.1 (by omega)]; exact h5, by rw [drN_lo (by omega) hd.1 (by omega)]; exact h6⟩
  · show drN N d (n - 1) 141 = n - 1
    unfold drN
    rw [if_pos rfl, h2]
  · rw [drN_X (by omega) hd.1 (by omega), drN_Y (by omega) hd.1 (by omega)]
    unfold rmI
    by_cases e : d ≤ k ∧ k < n - 1
    · rw [if_pos e, if_pos e, if_pos e, if_pos e]; exact h3 (k + 1) (by omega) (by omega)
    · rw [if_neg e, if_neg e, if_neg e, if_neg e]; exact h3 k a (by omega)
theorem MOK_drop {w h d : Int} {N : Int → Int} (hd : 0 ≤ d ∧ d < N 141) (h1 : ¬ N 141 = 1) (H : MOK w h N) : MOK w h (drN N d (N 141 - 1)) := by
  obtain ⟨nW, nH, n1, nO, nn, nX, nY, nM, nC, nT⟩ := H
  refine ⟨nW, nH, fun k a b => by rw [drN_lo (by omega) hd.1 (by omega)]; exact n1 k a b, fun k a b c => by rw [drN_lo (by omega) hd.1 (by omega)]; exact nO k a b c, ?_, fun k a b => ?_, fun k a b => ?_, by rw [drN_lo (by omega) hd.1 (by omega)]; exact nM, by rw [drN_lo (by omega) hd.1 (by omega)]; exact nC, by rw [drN_lo (by omega) hd.1 (by omega)]; exact nT⟩
  · have e : drN N d (N 141 - 1) 141 = N 141 - 1 := by
      unfold drN
      rw [if_pos rfl]
    rw [e]; omega
  · rw [drN_X (by omega) hd.1 (by omega)]; split
    · exact nX (k + 1) (by omega) (by omega)
    · exact nX k a b
  · rw [drN_Y (by omega) hd.1 (by omega)]; split
    · exact nY (k + 1) (by omega) (by omega)
    · exact nY k a b
/-- a text laid -/
theorem RSM_lay {nw nh nr k9 w h rw n m c : Int} {f X Y N : Int → Int} (hok : PSok (1, w, h, rw, f, n, X, Y, m, c)) (H : PRL nw nh nr N k9 (1, w, h, rw, f, n, X, Y, m, c)) (hn : ¬ n = 0) : RSM w h f X Y n m c 0 N ∧ SOK w h f X Y n m c ∧ MOK w h N := by
  obtain ⟨o1, o2, o3, o4, o5, o6, o7, o8, o9, o10, o11, o12⟩ := hok
  obtain ⟨q1, q2, q3, q4, q5, q6, q7, q8, q9, q10⟩ := H
  have hout : ∀ k : Int, 0 ≤ k → k < 121 → (w ≤ k % 11 ∨ h ≤ k / 11) → tb (f (k / 11)) (k % 11) = 0 := fun k a b e => o6 (k / 11) (k % 11) (by omega) (by omega) (by omega) (by omega) (by omega)
  refine ⟨⟨fun k a b => ?_, q4, q5, q6, q7, q8⟩, ⟨o2, o3, o5, fun y x y0 y1 x0 x1 e => o6 y x y0 y1 x0 x1 (by omega), by omega, o8, o9, o10, o11⟩, ⟨o2, o3, fun k a b => by rw [q3 k a b]; exact tb_01 _ _, fun k a b e => by rw [q3 k a b]; exact hout k a b e, by omega, q9, q10, by omega, by omega, by omega⟩⟩
  rw [q3 k a b]
  unfold EE eA
  by_cases g : 0 ≤ k % 11 ∧ k % 11 < w ∧ 0 ≤ k / 11 ∧ k / 11 < h
  · rw [if_pos g]
  · rw [if_neg g]; exact hout k a b (by omega)
