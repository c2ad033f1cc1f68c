/-! ===== the kept changes ===== -/
theorem RSM_row {w h n m c bs : Int} {f X Y N R : Int → Int} (hn : n ≤ 10) (e : ∀ k : Int, 0 ≤ k → k < 145 → R k = N k) (H : RSM w h f X Y n m c bs N) : RSM w h f X Y n m c bs R := by
  obtain ⟨h1, h2, h3, h4, h5, h6⟩ := H
  exact ⟨fun k a b => by rw [e k a (by omega)]; exact h1 k a b, by rw [e 141 (by decide) (by decide)]; exact h2, fun d a b => by rw [e _ (by omega) (by omega), e _ (by omega) (by omega)]; exact h3 d a b, by rw [e 142 (by decide) (by decide)]; exact h4, by rw [e 143 (by decide) (by decide)]; exact h5, by rw [e 144 (by decide) (by decide)]; exact h6⟩
theorem MOK_row {w h : Int} {N R : Int → Int} (e : ∀ k : Int, 0 ≤ k → k < 145 → R k = N k) (H : MOK w h N) : MOK w h R := by
  obtain ⟨nW, nH, n1, nO, nn, nX, nY, nM, nC, nT⟩ := H
  exact ⟨nW, nH, fun k a b => by rw [e k a (by omega)]; exact n1 k a b, fun k a b c => by rw [e k a (by omega)]; exact nO k a b c, by rw [e 141 (by decide) (by decide)]; exact nn, fun d a b => by rw [e _ (by omega) (by omega)]; exact nX d a b, fun d a b => by rw [e _ (by omega) (by omega)]; exact nY d a b, by rw [e 142 (by decide) (by decide)]; exact nM, by rw [e 143 (by decide) (by decide)]; exact nC, by rw [e 144 (by decide) (by decide)]; exact nT⟩
/-- a kept scene against a kept row -/
def SLT (w h M : Int) (b : Int) (R : Int → Int) : SCT → Prop
  | (w', h', f, X, Y, n, m, c) => w' = w ∧ h' = h ∧ SOK w h f X Y n m c ∧ MOK w h R ∧ RSM w h f X Y n m c b R ∧ 0 ≤ b ∧ b ≤ M
theorem SLT_row {w h M b : Int} {N R : Int → Int} {g : SCT} (e : ∀ k : Int, 0 ≤ k → k < 145 → R k = N k) (H : SLT w h M b N g) : SLT w h M b R g := by
  obtain ⟨w', h', f, X, Y, n, m, c⟩ := g
  obtain ⟨a1, a2, a3, a4, a5, a6⟩ := H
  exact ⟨a1, a2, a3, MOK_row e a4, RSM_row (by have := a3.2.2.2.2.1; omega) e a5, a6⟩
theorem SLT_le {w h M M' b : Int} {R : Int → Int} {g : SCT} (hM : M ≤ M') (H : SLT w h M b R g) : SLT w h M' b R g := by
  obtain ⟨w', h', f, X, Y, n, m, c⟩ := g
  obtain ⟨a1, a2, a3, a4, a5, a6, a7⟩ := H
  exact ⟨a1, a2, a3, a4, a5, a6, by omega⟩
def HRL (w h M nx hz : Int) (bz : Int → Int) (gs : Int → SCT) (Cg : Int → Int) : Prop := ∀ j : Int, 0 ≤ j → j < hz → SLT w h M (bz ((nx + 5 - j) % 6)) (fun k => Cg (145 * ((nx + 5 - j) % 6) + k)) (gs ((nx + 5 - j) % 6))
theorem HRL_push {w h M nx hz b : Int} {bz N Cg : Int → Int} {gs : Int → SCT} {v : SCT} (hx : 0 ≤ nx ∧ nx ≤ 5) (hv : SLT w h M b N v) (H : HRL w h M nx hz bz gs Cg) : HRL w h M ((nx + 1) % 6) (min (hz + 1) 6) (zU bz nx b) (upS gs nx v) (cpC N Cg nx 145) := by
  intro j j0 j1
  by_cases e : j = 0
  · rw [show ((nx + 1) % 6 + 5 - j) % 6 = nx by omega, zU_eq, show upS gs nx v nx = v from if_pos rfl]
    refine SLT_row (fun k a b => ?_) hv
    show cpC N Cg nx 145 (145 * nx + k) = N k
    unfold cpC
    rw [if_pos (by omega), show 145 * nx + k - 145 * nx = k by omega]
  · have h1 := H (j - 1) (by omega) (by omega)
    have hs : ((nx + 1) % 6 + 5 - j) % 6 = (nx + 5 - (j - 1)) % 6 := by omega
    have hne : (nx + 5 - (j - 1)) % 6 ≠ nx := by omega
    rw [hs, zU_ne _ _ hne, show upS gs nx v ((nx + 5 - (j - 1)) % 6) = gs ((nx + 5 - (j - 1)) % 6) from if_neg hne]
    refine SLT_row (fun k a b => ?_) h1
    show cpC N Cg nx 145 (145 * ((nx + 5 - (j - 1)) % 6) + k) = Cg (145 * ((nx + 5 - (j - 1)) % 6) + k)
    unfold cpC
    rw [if_neg (by omega)]
theorem HRL_pop {w h M nx hz : Int} {bz Cg : Int → Int} {gs : Int → SCT} (H : HRL w h M nx hz bz gs Cg) : HRL w h M ((nx + 5) % 6) (hz - 1) bz gs Cg := by
  intro j j0 j1
  have := H (j + 1) (by omega) (by omega)
  rw [show ((nx + 5) % 6 + 5 - j) % 6 = (nx + 5 - (j + 1)) % 6 by omega]
  exact this
theorem HRL_le {w h M M' nx hz : Int} {bz Cg : Int → Int} {gs : Int → SCT} (hM : M ≤ M') (H : HRL w h M nx hz bz gs Cg) : HRL w h M' nx hz bz gs Cg := fun j a b => SLT_le hM (H j a b)
