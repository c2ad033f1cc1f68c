/-! ===== the class's scene against the reference's row ===== -/
def RSM (w h : Int) (f X Y : Int → Int) (n m c bs : Int) (N : Int → Int) : Prop :=
  (∀ k : Int, 0 ≤ k → k < 121 → N k = EE w h f k) ∧ N 141 = n ∧ (∀ d : Int, 0 ≤ d → d < n → N (121 + d) = X d ∧ N (131 + d) = Y d) ∧ N 142 = m ∧ N 143 = c ∧ N 144 = bs
def N00 : Int → Int := zU (zU (dN0 6) 142 1) 143 20
theorem N00_e : ∀ k : Fin 121, N00 ((k : Nat) : Int) = EE 10 10 (fE 10) ((k : Nat) : Int) := by decide +kernel
theorem N00_x : ∀ d : Fin 6, N00 (121 + ((d : Nat) : Int)) = XE 6 ((d : Nat) : Int) ∧ N00 (131 + ((d : Nat) : Int)) = YE 6 ((d : Nat) : Int) := by decide +kernel
theorem fin_all {P : Int → Prop} {n : Nat} (h : ∀ k : Fin n, P ((k : Nat) : Int)) : ∀ k : Int, 0 ≤ k → k < n → P k := by
  intro k a b
  have := h ⟨k.toNat, by omega⟩
  rw [show (((⟨k.toNat, by omega⟩ : Fin n) : Nat) : Int) = k from Int.toNat_of_nonneg a] at this
  exact this
theorem RSM_0 : RSM 10 10 (fE 10) (XE 6) (YE 6) 6 1 20 0 N00 := ⟨fin_all (n := 121) (P := fun k => N00 k = EE 10 10 (fE 10) k) N00_e, by decide +kernel, fin_all (n := 6) (P := fun d => N00 (121 + d) = XE 6 d ∧ N00 (131 + d) = YE 6 d) N00_x, by decide +kernel, by decide +kernel, by decide +kernel⟩
theorem SOK_00 : SOK 10 10 (fE 10) (XE 6) (YE 6) 6 1 20 := by
  refine ⟨by decide, by decide, fin_all (n := 11) (P := fun k => 0 ≤ fE 10 k ∧ fE 10 k ≤ 2047) (by decide +kernel), ?_, by decide, fin_all (n := 10) (P := fun d => -5 ≤ XE 6 d ∧ XE 6 d ≤ 5) (by decide +kernel), fin_all (n := 10) (P := fun d => -5 ≤ YE 6 d ∧ YE 6 d ≤ 5) (by decide +kernel), by decide, by decide⟩
  have h : ∀ y : Fin 11, ∀ x : Fin 11, ((10 : Int) ≤ ((x : Nat) : Int) ∨ (10 : Int) ≤ ((y : Nat) : Int)) → tb (fE 10 ((y : Nat) : Int)) ((x : Nat) : Int) = 0 := by decide +kernel
  intro y x y0 y1 x0 x1 hq
  exact fin_all (n := 11) (P := fun x => ((10 : Int) ≤ x ∨ (10 : Int) ≤ y) → tb (fE 10 y) x = 0) (fun xx => fin_all (n := 11) (P := fun y => ((10 : Int) ≤ ((xx : Nat) : Int) ∨ (10 : Int) ≤ y) → tb (fE 10 y) ((xx : Nat) : Int) = 0) (fun yy => h yy xx) y y0 y1) x x0 x1 hq
theorem MOK_00 : MOK 10 10 N00 := by
  refine ⟨by decide, by decide, fin_all (n := 121) (P := fun k => N00 k = 0 ∨ N00 k = 1) (by decide +kernel), ?_, by decide +kernel, fin_all (n := 10) (P := fun d => -5 ≤ N00 (121 + d) ∧ N00 (121 + d) ≤ 5) (by decide +kernel), fin_all (n := 10) (P := fun d => -5 ≤ N00 (131 + d) ∧ N00 (131 + d) ≤ 5) (by decide +kernel), by decide +kernel, by decide +kernel, by decide +kernel⟩
  exact fin_all (n := 121) (P := fun k => ((10 : Int) ≤ k % 11 ∨ (10 : Int) ≤ k / 11) → N00 k = 0) (by decide +kernel)
theorem RS_xy {w h n : Int} {fr : Int → Int → Int} {X Y X' Y' : Int → Int} (hn : 0 ≤ n) (hX : ∀ d : Int, 0 ≤ d → d < n → X d = X' d) (hY : ∀ d : Int, 0 ≤ d → d < n → Y d = Y' d) (r : Int) : RS w h fr X Y n r ↔ RS w h fr X' Y' n r := by
  have a1 : ∀ way d : Int, 0 ≤ d → d < n → wX X Y way d = wX X' Y' way d := fun way d a b => by unfold wX; rw [hX d a b, hY d a b]
  have a2 : ∀ way d : Int, 0 ≤ d → d < n → wY X Y way d = wY X' Y' way d := fun way d a b => by unfold wY; rw [hX d a b, hY d a b]
  have a3 : ∀ way k d : Int, 0 ≤ d → d < n → wF fr X Y way k d = wF fr X' Y' way k d := fun way k d a b => by unfold wF; rw [a1 way d a b, a2 way d a b]
  have a4 : ∀ way k : Int, rkP fr X Y n way k = rkP fr X' Y' n way k := fun way k => by unfold rkP; rw [sI_cong (a3 way k), mxI_cong hn (a3 way k)]
  constructor
  · rintro ⟨way, k, h1, h2, h3, h4, h5, h6, h7, h8⟩
    exact ⟨way, k, h1, h2, h3, h4, h5, h6, (FT_cong (a1 way) (a2 way)).mp h7, by rw [h8, a4]⟩
  · rintro ⟨way, k, h1, h2, h3, h4, h5, h6, h7, h8⟩
    exact ⟨way, k, h1, h2, h3, h4, h5, h6, (FT_cong (a1 way) (a2 way)).mpr h7, by rw [h8, a4]⟩
theorem RSM_far {w h n m c bs : Int} {f X Y N : Int → Int} (H : RSM w h f X Y n m c bs N) (x y : Int) : farS N (N 142) (N 143) x y = farS (EE w h f) m c x y := by
  obtain ⟨h1, h2, h3, h4, h5, h6⟩ := H
  rw [h4, h5]
  exact farS_cong h1
theorem RSM_RS {w h n m c bs : Int} {f X Y N : Int → Int} (hn : 0 ≤ n) (H : RSM w h f X Y n m c bs N) (r : Int) : RSN w h N r ↔ RSc w h f X Y n m c r := by
  have hf := RSM_far H
  obtain ⟨h1, h2, h3, h4, h5, h6⟩ := H
  unfold RSN RSc
  rw [h2]
  exact (RS_fr hn (fun u v _ _ _ _ => hf u v) r).trans (RS_xy hn (fun d a b => (h3 d a b).1) (fun d a b => (h3 d a b).2) r)
