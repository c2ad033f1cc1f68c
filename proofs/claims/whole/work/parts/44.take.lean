/-! ===== taking, on both sides ===== -/
section
variable {w h n m c bs : Int} {f X Y N : Int → Int}
theorem RSM_tl (H : RSM w h f X Y n m c bs N) (r0 rch : Int) {k : Int} (a : 0 ≤ k) (b : k < 121) : tlN N r0 rch k = tlF (EE w h f) m X Y n r0 rch k := by
  unfold tlN tlF
  exact td_at (H.1 k a b) H.2.2.2.1 H.2.1 (fun d d0 d1 => (RSM_LX H _ _ _).1 d d0 (by rw [H.2.1] at d1; exact d1)) (fun d d0 d1 => (RSM_LX H _ _ _).2 d d0 (by rw [H.2.1] at d1; exact d1))
theorem RSM_tlS (H : RSM w h f X Y n m c bs N) (r0 rch : Int) : sI (tlN N r0 rch) 121 = sI (tlF (EE w h f) m X Y n r0 rch) 121 := sI_cong (fun k a b => RSM_tl H r0 rch a b)
theorem TM_TK {rch ill r0 mn r0' mn' : Int} {f2 : Int → Int} (hn : 0 ≤ n) (H : RSM w h f X Y n m c bs N) (h1 : TMO w h rch ill N r0 mn) (h2 : TKO w h X Y n m c rch ill f f2 r0' mn') : r0 = r0' ∧ mn = mn' := by
  obtain ⟨T, q, a1, a2, a3, a4, a5, a6⟩ := h1
  obtain ⟨T', q', b1, b2, b3, b4, b5, b6, b7⟩ := h2
  obtain ⟨e1, e2⟩ := TOP_one (TOP_iff (RSM_RS hn H) a1) b1
  have e3 : r0 = r0' := by rw [a3, b3]; exact e2 0 (by decide) a2
  subst e3
  exact ⟨rfl, by rw [a5, b5]; exact RSM_tlS H _ _⟩
theorem TM_X {rch ill r0 mn : Int} (hn : 0 ≤ n) (H : RSM w h f X Y n m c bs N) (h1 : TMO w h rch ill N r0 mn) (h2 : TKX w h X Y n m c rch ill f) : False := by
  obtain ⟨T, q, a1, a2, a3, a4, a5, a6⟩ := h1
  obtain ⟨T', q', b1, b2⟩ := h2
  obtain ⟨e1, e2⟩ := TOP_one (TOP_iff (RSM_RS hn H) a1) b1
  have e3 : r0 = T' 0 := by rw [a3]; exact e2 0 (by decide) a2
  rcases b2 with z | z | z
  · omega
  · rw [e3] at a4; omega
  · rw [a5, e3, RSM_tlS H] at a6; exact a6 z
theorem TX_K {rch ill r0 mn : Int} {f2 : Int → Int} (hn : 0 ≤ n) (H : RSM w h f X Y n m c bs N) (h1 : TMX w h rch ill N) (h2 : TKO w h X Y n m c rch ill f f2 r0 mn) : False := by
  obtain ⟨T, q, a1, a2⟩ := h1
  obtain ⟨T', q', b1, b2, b3, b4, b5, b6, b7⟩ := h2
  obtain ⟨e1, e2⟩ := TOP_one (TOP_iff (RSM_RS hn H) a1) b1
  rcases a2 with z | z | z
  · omega
  · rw [e2 0 (by decide) (by omega), ← b3] at z; omega
  · rw [e2 0 (by decide) (by omega), ← b3, RSM_tlS H, ← b5] at z; exact b6 z
theorem RSM_take {r0 rch : Int} (hS : SOK w h f X Y n m c) (H : RSM w h f X Y n m c bs N) : RSM w h (fun k => anI (f k) (rowV (tlF (EE w h f) m X Y n r0 rch) k)) X Y n m c (bs + 1) (zU (tkC (tlN N r0 rch) N 121) 144 (N 144 + 1)) := by
  have htl := fun (k : Int) (a : 0 ≤ k) (b : k < 121) => RSM_tl H r0 rch a b
  obtain ⟨sW, sH, sF, sO, sN, -⟩ := hS
  obtain ⟨h1, h2, h3, h4, h5, h6⟩ := H
  have hG := tlF_01 (EE w h f) m X Y n r0 rch
  refine ⟨fun k a b => ?_, by rw [zU_ne _ _ (by omega), tkC_hi (by omega)]; exact h2, fun d a b => by rw [zU_ne _ _ (by omega), zU_ne _ _ (by omega), tkC_hi (by omega), tkC_hi (by omega)]; exact h3 d a b, by rw [zU_ne _ _ (by omega), tkC_hi (by omega)]; exact h4, by rw [zU_ne _ _ (by omega), tkC_hi (by omega)]; exact h5, by rw [zU_eq, h6]⟩
  rw [zU_ne _ _ (by omega)]
  have hfy := sF (k / 11) (by omega) (by omega)
  have hrb := rowV_b (G := tlF (EE w h f) m X Y n r0 rch) hG (k / 11)
  have hrt := rowV_tb (G := tlF (EE w h f) m X Y n r0 rch) hG (k / 11) (u := k % 11) (by omega) (by omega)
  rw [show 11 * (k / 11) + k % 11 = k by omega] at hrt
  have htk := htl k a b
  clear htl
  generalize tlF (EE w h f) m X Y n r0 rch = G at hG hrb hrt htk ⊢
  unfold tkC EE eA
  rw [htk]
  by_cases g : 0 ≤ k % 11 ∧ k % 11 < w ∧ 0 ≤ k / 11 ∧ k / 11 < h
  · rw [if_pos g, tb_an hfy hrb (by omega), hrt]
    by_cases e : G k = 1
    · rw [if_pos ⟨a, b, e⟩, if_pos e]
    · rw [if_neg (fun z => e z.2.2), if_neg e, h1 k a b]
      unfold EE eA
      rw [if_pos g]
  · rw [if_neg g]
    by_cases e : G k = 1
    · rw [if_pos ⟨a, b, e⟩]
    · rw [if_neg (fun z => e z.2.2), h1 k a b]
      unfold EE eA
      rw [if_neg g]
end
