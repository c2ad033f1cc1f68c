/-! ===== the same answers ===== -/
section
variable {w h n m c bs : Int} {f X Y N : Int → Int} {r r' : Int}
theorem A_cell (hS : SOK w h f X Y n m c) (H : RSM w h f X Y n m c bs N) {x y : Int} (h1 : r = if 0 ≤ x ∧ x < w ∧ 0 ≤ y ∧ y < h then EE w h f (11 * y + x) else -1) (h2 : r' = if 0 ≤ x ∧ x < w ∧ 0 ≤ y ∧ y < h then N (11 * y + x) else -1) : r = r' := by
  obtain ⟨sW, sH, -⟩ := hS
  rw [h1, h2]
  split
  · exact (H.1 _ (by omega) (by omega)).symm
  · rfl
theorem A_far (H : RSM w h f X Y n m c bs N) {x y : Int} (h1 : r = if 0 ≤ x ∧ x < w ∧ 0 ≤ y ∧ y < h then farS (EE w h f) m c x y else -1) (h2 : r' = if 0 ≤ x ∧ x < w ∧ 0 ≤ y ∧ y < h then farS N (N 142) (N 143) x y else -1) : r = r' := by
  rw [h1, h2, RSM_far H]
theorem A_nearest (H : RSM w h f X Y n m c bs N) {x y : Int} (h1 : (¬ (0 ≤ x ∧ x < w ∧ 0 ≤ y ∧ y < h) ∧ r = -1) ∨ ((0 ≤ x ∧ x < w ∧ 0 ≤ y ∧ y < h) ∧ NRS (EE w h f) m x y r)) (h2 : (¬ (0 ≤ x ∧ x < w ∧ 0 ≤ y ∧ y < h) ∧ r' = -1) ∨ ((0 ≤ x ∧ x < w ∧ 0 ≤ y ∧ y < h) ∧ NRS N (N 142) x y r')) : r = r' := by
  rcases h1 with ⟨a1, a2⟩ | ⟨a1, a2⟩ <;> rcases h2 with ⟨b1, b2⟩ | ⟨b1, b2⟩
  · rw [a2, b2]
  · exact absurd b1 a1
  · exact absurd a1 b1
  · rw [H.2.2.2.1] at b2
    exact NRS_one (fun k a b => (H.1 k a b).symm) a2 b2
theorem A_rings (H : RSM w h f X Y n m c bs N) {x : Int} (h1 : r = if 0 ≤ x ∧ x ≤ 99 then sum2 w h (fun a b => if farS (EE w h f) m c a b = x then 1 else 0) else -1) (h2 : r' = if 0 ≤ x ∧ x ≤ 99 then sum2 w h (fun p9 q9 => if farS N (N 142) (N 143) p9 q9 = x then 1 else 0) else -1) : r = r' := by
  rw [h1, h2]
  simp only [RSM_far H]
theorem RSM_LX (H : RSM w h f X Y n m c bs N) (s t q : Int) : (∀ d : Int, 0 ≤ d → d < n → LXM N s t q d = lX s t q (X d) (Y d)) ∧ ∀ d : Int, 0 ≤ d → d < n → LYM N s t q d = lY s t q (X d) (Y d) :=
  ⟨fun d a b => by unfold LXM; rw [(H.2.2.1 d a b).1, (H.2.2.1 d a b).2], fun d a b => by unfold LYM; rw [(H.2.2.1 d a b).1, (H.2.2.1 d a b).2]⟩
theorem RSM_FT (H : RSM w h f X Y n m c bs N) (s t q x y : Int) : FT (LXM N s t q) (LYM N s t q) (N 141) w h x y ↔ FT (fun d => lX s t q (X d) (Y d)) (fun d => lY s t q (X d) (Y d)) n w h x y := by
  rw [H.2.1]
  exact FT_cong (RSM_LX H s t q).1 (RSM_LX H s t q).2
theorem A_lies (H : RSM w h f X Y n m c bs N) {sc tn fl d q : Int} (h1 : r = if 0 ≤ d ∧ d < n ∧ 0 ≤ q ∧ q ≤ 1 then 100 + (if q = 0 then lX sc tn fl (X d) (Y d) else lY sc tn fl (X d) (Y d)) else -1) (h2 : r' = if 0 ≤ d ∧ d < N 141 ∧ 0 ≤ q ∧ q ≤ 1 then 100 + (if q = 0 then lX sc tn fl (N (121 + d)) (N (131 + d)) else lY sc tn fl (N (121 + d)) (N (131 + d))) else -1) : r = r' := by
  rw [h1, h2, H.2.1]
  by_cases e : 0 ≤ d ∧ d < n ∧ 0 ≤ q ∧ q ≤ 1
  · rw [if_pos e, if_pos e, (H.2.2.1 d e.1 e.2.1).1, (H.2.2.1 d e.1 e.2.1).2]
  · rw [if_neg e, if_neg e]
theorem A_pose (hn : 0 ≤ n) (H : RSM w h f X Y n m c bs N) {sc tn fl x y q : Int} {V : Prop}
    (h1 : (r = -1 ∧ ¬ V) ∨ (r = -4 ∧ V ∧ ¬ FT (fun d => lX sc tn fl (X d) (Y d)) (fun d => lY sc tn fl (X d) (Y d)) n w h x y) ∨ (V ∧ FT (fun d => lX sc tn fl (X d) (Y d)) (fun d => lY sc tn fl (X d) (Y d)) n w h x y ∧ r = pAn (fun d => farS (EE w h f) m c (x + lX sc tn fl (X d) (Y d)) (y + lY sc tn fl (X d) (Y d))) n q))
    (h2 : (r' = -1 ∧ ¬ V) ∨ (r' = -4 ∧ V ∧ ¬ FT (LXM N sc tn fl) (LYM N sc tn fl) (N 141) w h x y) ∨ (V ∧ FT (LXM N sc tn fl) (LYM N sc tn fl) (N 141) w h x y ∧ r' = pAn (FRM N (LXM N sc tn fl) (LYM N sc tn fl) x y) (N 141) q)) : r = r' := by
  have hf := RSM_FT H sc tn fl x y
  rcases h1 with ⟨a1, a2⟩ | ⟨a1, a2, a3⟩ | ⟨a1, a2, a3⟩ <;> rcases h2 with ⟨b1, b2⟩ | ⟨b1, b2, b3⟩ | ⟨b1, b2, b3⟩
  · rw [a1, b1]
  · exact absurd b2 a2
  · exact absurd b1 a2
  · exact absurd a2 b2
  · rw [a1, b1]
  · exact absurd (hf.mp b2) a3
  · exact absurd a1 b2
  · exact absurd (hf.mpr a2) b3
  · rw [a3, b3, H.2.1]
    refine pAn_cong hn (fun d a b => ?_)
    show farS (EE w h f) m c _ _ = farS N (N 142) (N 143) (x + LXM N sc tn fl d) (y + LYM N sc tn fl d)
    rw [RSM_far H, (RSM_LX H sc tn fl).1 d a b, (RSM_LX H sc tn fl).2 d a b]
theorem A_tells (H : RSM w h f X Y n m c bs N) {sc tn fl x y q : Int} {V : Prop}
    (h1 : (r = -1 ∧ ¬ V) ∨ (r = -4 ∧ V ∧ ¬ FT (fun d => lX sc tn fl (X d) (Y d)) (fun d => lY sc tn fl (X d) (Y d)) n w h x y) ∨ (V ∧ FT (fun d => lX sc tn fl (X d) (Y d)) (fun d => lY sc tn fl (X d) (Y d)) n w h x y ∧ r = sI (tdF (EE w h f) m (fun d => lX sc tn fl (X d) (Y d)) (fun d => lY sc tn fl (X d) (Y d)) n x y q) 121))
    (h2 : (r' = -1 ∧ ¬ V) ∨ (r' = -4 ∧ V ∧ ¬ FT (LXM N sc tn fl) (LYM N sc tn fl) (N 141) w h x y) ∨ (V ∧ FT (LXM N sc tn fl) (LYM N sc tn fl) (N 141) w h x y ∧ r' = sI (tdF N (N 142) (LXM N sc tn fl) (LYM N sc tn fl) (N 141) x y q) 121)) : r = r' := by
  have hf := RSM_FT H sc tn fl x y
  rcases h1 with ⟨a1, a2⟩ | ⟨a1, a2, a3⟩ | ⟨a1, a2, a3⟩ <;> rcases h2 with ⟨b1, b2⟩ | ⟨b1, b2, b3⟩ | ⟨b1, b2, b3⟩
  · rw [a1, b1]
  · exact absurd b2 a2
  · exact absurd b1 a2
  · exact absurd a2 b2
  · rw [a1, b1]
  · exact absurd (hf.mp b2) a3
  · exact absurd a1 b2
  · exact absurd (hf.mpr a2) b3
  · rw [a3, b3, H.2.1, H.2.2.2.1]
    exact sI_cong (fun k a b => (tdF_cong (fun k a b => (H.1 k a b)) (RSM_LX H sc tn fl).1 (RSM_LX H sc tn fl).2 k a b).symm)
theorem A_best (hn : 0 ≤ n) (H : RSM w h f X Y n m c bs N) {i q : Int} {V : Prop} (h1 : (r = -1 ∧ ¬ V) ∨ (V ∧ ∃ (T9 : Int → Int) (n9 : Int), TOP (RSc w h f X Y n m c) T9 n9 ∧ r = pOf T9 n9 i q)) (h2 : (r' = -1 ∧ ¬ V) ∨ (V ∧ ∃ (T9 : Int → Int) (n9 : Int), TOP (RSN w h N) T9 n9 ∧ r' = pOf T9 n9 i q)) : r = r' := by
  rcases h1 with ⟨a1, a2⟩ | ⟨a1, T, k, a2, a3⟩ <;> rcases h2 with ⟨b1, b2⟩ | ⟨b1, T', k', b2, b3⟩
  · rw [a1, b1]
  · exact absurd b1 a2
  · exact absurd a1 b2
  · obtain ⟨e1, e2⟩ := TOP_one a2 (TOP_iff (RSM_RS hn H) b2)
    subst e1
    rw [a3, b3]
    unfold pOf
    by_cases e : 0 ≤ i ∧ i < k
    · rw [e2 i e.1 e.2]
    · rw [if_neg e, if_neg e]
theorem SPR_iff {S S' : Int → Prop} {a k : Int} {T : Int → Int} (hq : ∀ r, S r ↔ S' r) (H : SPR S a T k) : SPR S' a T k := by
  obtain ⟨a1, a2, a3, a4⟩ := H
  refine ⟨a1, a2, fun i i0 i1 => ⟨(hq _).mp (a3 i i0 i1).1, (a3 i i0 i1).2.1, fun r hr => (a3 i i0 i1).2.2 r ((hq r).mpr hr)⟩, ?_⟩
  rcases a4 with z | z
  · exact Or.inl z
  · exact Or.inr (fun r hr => z r ((hq r).mpr hr))
theorem A_spread (hn : 0 ≤ n) (H : RSM w h f X Y n m c bs N) {a i q : Int} {V : Prop} (h1 : (r = -1 ∧ ¬ V) ∨ (V ∧ ∃ (T9 : Int → Int) (n9 : Int), SPR (RSc w h f X Y n m c) a T9 n9 ∧ r = pOf T9 n9 i q)) (h2 : (r' = -1 ∧ ¬ V) ∨ (V ∧ ∃ (T9 : Int → Int) (n9 : Int), SPR (RSN w h N) a T9 n9 ∧ r' = pOf T9 n9 i q)) : r = r' := by
  rcases h1 with ⟨a1, a2⟩ | ⟨a1, T, k, a2, a3⟩ <;> rcases h2 with ⟨b1, b2⟩ | ⟨b1, T', k', b2, b3⟩
  · rw [a1, b1]
  · exact absurd b1 a2
  · exact absurd a1 b2
  · obtain ⟨e1, e2⟩ := SPR_one a2 (SPR_iff (RSM_RS hn H) b2)
    subst e1
    rw [a3, b3]
    unfold pOf
    by_cases e : 0 ≤ i ∧ i < k
    · rw [e2 i e.1 e.2]
    · rw [if_neg e, if_neg e]
end
