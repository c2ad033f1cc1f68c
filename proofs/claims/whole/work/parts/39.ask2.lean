/-! ===== the same answers: fits, bounds ===== -/
section
variable {w h n m c bs : Int} {f X Y N : Int → Int} {r r' : Int}
theorem ftI_iff {P Q P' Q' : Int → Int} {n' x y : Int} (hq : FT P Q n w h x y ↔ FT P' Q' n' w h x y) : ftI P Q n w h x y = ftI P' Q' n' w h x y := by
  unfold ftI
  by_cases e : FT P Q n w h x y
  · rw [pif_t e, pif_t (hq.mp e)]
  · rw [pif_f e, pif_f (fun z => e (hq.mpr z))]
theorem A_fits (H : RSM w h f X Y n m c bs N) {sc tn fl : Int} (h1 : r = sum2 w h (fun a b => ftI (fun d => lX sc tn fl (X d) (Y d)) (fun d => lY sc tn fl (X d) (Y d)) n w h a b)) (h2 : r' = sum2 w h (fun a b => ftI (LXM N sc tn fl) (LYM N sc tn fl) (N 141) w h a b)) : r = r' := by
  rw [h1, h2]
  congr 1
  funext a b
  exact ftI_iff (RSM_FT H sc tn fl a b).symm
theorem BND_cong {fr fr' : Int → Int → Int} {x y s : Int} {P Q P' Q' : Int → Int} (hf : ∀ a b : Int, fr a b = fr' a b) (hP : ∀ d : Int, 0 ≤ d → d < n → P d = P' d) (hQ : ∀ d : Int, 0 ≤ d → d < n → Q d = Q' d) (H : BND fr w h x y s P Q n r) : BND fr' w h x y s P' Q' n r := by
  have e : fr = fr' := by
    funext a b
    exact hf a b
  subst e
  rcases H with ⟨a1, d, d0, d1, d2⟩ | ⟨V, v1, v2⟩
  · exact Or.inl ⟨a1, d, d0, d1, by rw [← hP d d0 d1, ← hQ d d0 d1]; exact d2⟩
  · exact Or.inr ⟨V, fun d d0 d1 => by rw [← hP d d0 d1, ← hQ d d0 d1]; exact v1 d d0 d1, v2⟩
theorem A_bound (H : RSM w h f X Y n m c bs N) {sc tn fl x y q : Int} {V : Prop} (h1 : (r = -1 ∧ ¬ V) ∨ (V ∧ BND (fun p9 q9 => farS (EE w h f) m c p9 q9) w h x y q (fun d => lX sc tn fl (X d) (Y d)) (fun d => lY sc tn fl (X d) (Y d)) n r)) (h2 : (r' = -1 ∧ ¬ V) ∨ (V ∧ BND (fun p9 q9 => farS N (N 142) (N 143) p9 q9) w h x y q (LXM N sc tn fl) (LYM N sc tn fl) (N 141) r')) : r = r' := by
  rcases h1 with ⟨a1, a2⟩ | ⟨a1, a2⟩ <;> rcases h2 with ⟨b1, b2⟩ | ⟨b1, b2⟩
  · rw [a1, b1]
  · exact absurd b1 a2
  · exact absurd a1 b2
  · rw [H.2.1] at b2
    exact BND_one a2 (BND_cong (fun a b => RSM_far H a b) (RSM_LX H sc tn fl).1 (RSM_LX H sc tn fl).2 b2)
theorem A_turn {sc tn fl s t q s2 t2 q2 s3 t3 q3 : Int} {V : Prop} (h1 : (r = -1 ∧ ¬ V ∧ s2 = sc ∧ t2 = tn ∧ q2 = fl) ∨ (r = 0 ∧ V ∧ s2 = s ∧ t2 = t ∧ q2 = q)) (h2 : (r' = -1 ∧ ¬ V ∧ s3 = sc ∧ t3 = tn ∧ q3 = fl) ∨ (r' = 0 ∧ V ∧ s3 = s ∧ t3 = t ∧ q3 = q)) : r = r' ∧ s2 = s3 ∧ t2 = t3 ∧ q2 = q3 := by
  rcases h1 with ⟨a1, a2, a3, a4, a5⟩ | ⟨a1, a2, a3, a4, a5⟩ <;> rcases h2 with ⟨b1, b2, b3, b4, b5⟩ | ⟨b1, b2, b3, b4, b5⟩
  · exact ⟨by rw [a1, b1], by rw [a3, b3], by rw [a4, b4], by rw [a5, b5]⟩
  · exact absurd b2 a2
  · exact absurd a2 b2
  · exact ⟨by rw [a1, b1], by rw [a3, b3], by rw [a4, b4], by rw [a5, b5]⟩
end
