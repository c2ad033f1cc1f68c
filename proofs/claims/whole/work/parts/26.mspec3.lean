/-! ===== what the reference weighs ===== -/
theorem dst_z {m a b : Int} (h : dst m a b = 0) : a = 0 ∧ b = 0 := by
  unfold dst ab at h
  omega
theorem far_edge {E : Int → Int} {m c x y : Int} (hx : 0 ≤ x ∧ x < 11) (hy : 0 ≤ y ∧ y < 11) (hc : 1 ≤ c) (h01 : E (11 * y + x) = 0 ∨ E (11 * y + x) = 1) : (if farS E m c x y = 0 then (1 : Int) else 0) = E (11 * y + x) := by
  rcases h01 with h | h
  · rw [h, if_neg]
    intro z
    rcases farM_eq E m c x y 121 with e | ⟨k, k0, k1, k2, k3⟩
    · unfold farS at z; omega
    · unfold farS at z
      rw [z] at k3
      have h9 := dst_z k3.symm
      rw [show k = 11 * y + x by omega, h] at k2
      omega
  · rw [h, if_pos]
    have h1 := farM_le E m c x y 121 (11 * y + x) (by omega) (by omega) h
    have h2 := farS_nn (E := E) (m := m) (c := c) (x := x) (y := y) (by omega)
    rw [show (11 * y + x) % 11 - x = 0 by omega, show (11 * y + x) / 11 - y = 0 by omega, dst_00] at h1
    unfold farS at *
    omega
/-- FAR of each dot of a pose -/
def FRM (N P Q : Int → Int) (x y : Int) : Int → Int := fun d => farS N (N 142) (N 143) (x + P d) (y + Q d)
theorem gFM_fr {wi hi x y n : Int} {N Fa P Q : Int → Int} (hF : FAM wi hi N Fa) (ht : FT P Q n wi hi x y) : ∀ d : Int, 0 ≤ d → d < n → gFM Fa P Q x y d = FRM N P Q x y d := fun d a b => hF _ _ (ht d a b).1 (ht d a b).2.1 (ht d a b).2.2.1 (ht d a b).2.2.2
theorem gFM_ed {wi hi x y n : Int} {N P Q : Int → Int} (hN : MOK wi hi N) (ht : FT P Q n wi hi x y) : ∀ d : Int, 0 ≤ d → d < n → gFM N P Q x y d = is0 (FRM N P Q x y) d := by
  obtain ⟨nW, nH, n1, nO, nn, nX, nY, nM, nC, nT⟩ := hN
  intro d a b
  have h := ht d a b
  exact (far_edge (E := N) (m := N 142) (c := N 143) (x := x + P d) (y := y + Q d) (by omega) (by omega) (by omega) (n1 _ (by omega) (by omega))).symm
theorem look_an {wi hi x y w0 : Int} {N Fa P Q : Int → Int} (hN : MOK wi hi N) (hF : FAM wi hi N Fa) (ht : FT P Q (N 141) wi hi x y) : sI (gFM Fa P Q x y) (N 141) = sI (FRM N P Q x y) (N 141) ∧ mxM (gFM Fa P Q x y) (N 141).toNat = mxI (FRM N P Q x y) (N 141) ∧ wdM (gFM Fa P Q x y) w0 (N 141).toNat = wdI (FRM N P Q x y) (N 141) ∧ sI (gFM N P Q x y) (N 141) = sI (is0 (FRM N P Q x y)) (N 141) := by
  obtain ⟨nW, nH, n1, nO, nn, nX, nY, nM, nC, nT⟩ := id hN
  have g1 := gFM_fr hF ht
  have hm := mxM_n (F := gFM Fa P Q x y) w0 nn.1 (fun d a b => by rw [g1 d a b]; exact farS_nn (by omega))
  exact ⟨sI_cong g1, by rw [hm.1]; exact mxI_cong (by omega) g1, by rw [hm.2]; exact wdI_cong (by omega) g1, sI_cong (gFM_ed hN ht)⟩
/-- a dot's least FAR over a box of places, of the places ahead of K -/
def BDP (fr : Int → Int → Int) (w h x y s u v r K : Int) : Prop :=
  (r = 2147483647 ∧ ∀ k : Int, 0 ≤ k → k < K → x + k % s < w → y + k / s < h → ¬ (0 ≤ x + k % s + u ∧ x + k % s + u < w ∧ 0 ≤ y + k / s + v ∧ y + k / s + v < h)) ∨ ((∃ k : Int, 0 ≤ k ∧ k < K ∧ x + k % s < w ∧ y + k / s < h ∧ (0 ≤ x + k % s + u ∧ x + k % s + u < w ∧ 0 ≤ y + k / s + v ∧ y + k / s + v < h) ∧ fr (x + k % s + u) (y + k / s + v) = r) ∧ ∀ k : Int, 0 ≤ k → k < K → x + k % s < w → y + k / s < h → (0 ≤ x + k % s + u ∧ x + k % s + u < w ∧ 0 ≤ y + k / s + v ∧ y + k / s + v < h) → r ≤ fr (x + k % s + u) (y + k / s + v))
theorem BDP_skip {fr : Int → Int → Int} {w h x y s u v r K : Int} (hn : ¬ (x + K % s < w ∧ y + K / s < h ∧ (0 ≤ x + K % s + u ∧ x + K % s + u < w ∧ 0 ≤ y + K / s + v ∧ y + K / s + v < h))) (H : BDP fr w h x y s u v r K) : BDP fr w h x y s u v r (K + 1) := by
  rcases H with ⟨h1, h2⟩ | ⟨⟨k, k0, k1, k2⟩, h3⟩
  · refine Or.inl ⟨h1, fun j a b c d e => ?_⟩
    by_cases q : j = K
    · rw [q] at c d e; exact hn ⟨c, d, e⟩
    · exact h2 j a (by omega) c d e
  · refine Or.inr ⟨⟨k, k0, by omega, k2⟩, fun j a b c d e => ?_⟩
    by_cases q : j = K
    · rw [q] at c d e; exact absurd ⟨c, d, e⟩ hn
    · exact h3 j a (by omega) c d e
theorem BDP_old {fr : Int → Int → Int} {w h x y s u v r K : Int} (hle : r ≤ fr (x + K % s + u) (y + K / s + v)) (hr : fr (x + K % s + u) (y + K / s + v) ≤ 99) (H : BDP fr w h x y s u v r K) : BDP fr w h x y s u v r (K + 1) := by
  rcases H with ⟨h1, h2⟩ | ⟨⟨k, k0, k1, k2⟩, h3⟩
  · omega
  · refine Or.inr ⟨⟨k, k0, by omega, k2⟩, fun j a b c d e => ?_⟩
    by_cases q : j = K
    · rw [q]; exact hle
    · exact h3 j a (by omega) c d e
theorem BDP_new {fr : Int → Int → Int} {w h x y s u v r K : Int} (hK : 0 ≤ K) (h1 : x + K % s < w) (h2 : y + K / s < h) (h3 : 0 ≤ x + K % s + u ∧ x + K % s + u < w ∧ 0 ≤ y + K / s + v ∧ y + K / s + v < h) (hl : fr (x + K % s + u) (y + K / s + v) < r) (H : BDP fr w h x y s u v r K) : BDP fr w h x y s u v (fr (x + K % s + u) (y + K / s + v)) (K + 1) := by
  refine Or.inr ⟨⟨K, hK, by omega, h1, h2, h3, rfl⟩, fun j a b c d e => ?_⟩
  by_cases q : j = K
  · rw [q]; omega
  · rcases H with ⟨-, h4⟩ | ⟨-, h4⟩
    · exact absurd e (h4 j a (by omega) c d)
    · have := h4 j a (by omega) c d e; omega
theorem sq_in {s k : Int} (hs : 1 ≤ s ∧ s ≤ 11) (h0 : 0 ≤ k) (h1 : k < s * s) : 0 ≤ k % s ∧ k % s < s ∧ 0 ≤ k / s ∧ k / s < s ∧ k < 121 := by
  rcases (by omega : s = 1 ∨ s = 2 ∨ s = 3 ∨ s = 4 ∨ s = 5 ∨ s = 6 ∨ s = 7 ∨ s = 8 ∨ s = 9 ∨ s = 10 ∨ s = 11) with rfl | rfl | rfl | rfl | rfl | rfl | rfl | rfl | rfl | rfl | rfl <;> omega
theorem sq_on {s p q : Int} (hs : 1 ≤ s ∧ s ≤ 11) (h0 : 0 ≤ p) (h1 : p < s) (h2 : 0 ≤ q) (h3 : q < s) : ∃ k : Int, 0 ≤ k ∧ k < s * s ∧ k % s = p ∧ k / s = q := by
  refine ⟨s * q + p, ?_⟩
  rcases (by omega : s = 1 ∨ s = 2 ∨ s = 3 ∨ s = 4 ∨ s = 5 ∨ s = 6 ∨ s = 7 ∨ s = 8 ∨ s = 9 ∨ s = 10 ∨ s = 11) with rfl | rfl | rfl | rfl | rfl | rfl | rfl | rfl | rfl | rfl | rfl <;> omega
theorem sq_b {s : Int} (hs : 1 ≤ s ∧ s ≤ 11) : 1 ≤ s * s ∧ s * s ≤ 121 := by
  rcases (by omega : s = 1 ∨ s = 2 ∨ s = 3 ∨ s = 4 ∨ s = 5 ∨ s = 6 ∨ s = 7 ∨ s = 8 ∨ s = 9 ∨ s = 10 ∨ s = 11) with rfl | rfl | rfl | rfl | rfl | rfl | rfl | rfl | rfl | rfl | rfl <;> omega
theorem BDP_no {fr : Int → Int → Int} {w h x y s u v : Int} (hs : 1 ≤ s ∧ s ≤ 11) (hx : 0 ≤ x ∧ 0 ≤ y) (hf : ∀ a b : Int, fr a b ≤ 99) (H : BDP fr w h x y s u v 2147483647 (s * s)) : BDS fr w h x y s u v (-4) := by
  rcases H with ⟨h1, h2⟩ | ⟨⟨k, k0, k1, k2, k3, k4, k5⟩, h3⟩
  · refine Or.inl ⟨rfl, fun p q a b c d e f g => ?_⟩
    obtain ⟨k, k0, k1, k2, k3⟩ := sq_on hs (show 0 ≤ p - x by omega) (by omega) (show 0 ≤ q - y by omega) (by omega)
    have := h2 k k0 k1
    rw [k2, k3, show x + (p - x) = p by omega, show y + (q - y) = q by omega] at this
    exact this e f g
  · have := hf (x + k % s + u) (y + k / s + v)
    omega
theorem BDP_yes {fr : Int → Int → Int} {w h x y s u v r : Int} (hs : 1 ≤ s ∧ s ≤ 11) (hx : 0 ≤ x ∧ 0 ≤ y) (hr : ¬ r = 2147483647) (H : BDP fr w h x y s u v r (s * s)) : BDS fr w h x y s u v r := by
  rcases H with ⟨h1, h2⟩ | ⟨⟨k, k0, k1, k2, k3, k4, k5⟩, h3⟩
  · exact absurd h1 hr
  · have hk := sq_in hs k0 k1
    refine Or.inr ⟨⟨x + k % s, y + k / s, by omega, by omega, by omega, by omega, k2, k3, k4, k5⟩, fun p q a b c d e f g => ?_⟩
    obtain ⟨j, j0, j1, j2, j3⟩ := sq_on hs (show 0 ≤ p - x by omega) (by omega) (show 0 ≤ q - y by omega) (by omega)
    have := h3 j j0 j1
    rw [j2, j3, show x + (p - x) = p by omega, show y + (q - y) = q by omega] at this
    exact this e f g
