/-! ===== the reference's reading of a text ===== -/
def PRL (nw nh nr : Int) (Fr : Int → Int) (k : Int) : PSt → Prop
  | (td, w, h, rw, f, n, X, Y, m, c) => (td = 0 → k = 0 ∧ nr = 0) ∧ (td = 1 → 0 < k ∧ nw = w ∧ nh = h ∧ nr = rw) ∧ (∀ j : Int, 0 ≤ j → j < 121 → Fr j = tb (f (j / 11)) (j % 11)) ∧ Fr 141 = n ∧ (∀ d : Int, 0 ≤ d → d < n → Fr (121 + d) = X d ∧ Fr (131 + d) = Y d) ∧ Fr 142 = m ∧ Fr 143 = c ∧ Fr 144 = 0 ∧ (∀ d : Int, 0 ≤ d → d < 10 → -5 ≤ Fr (121 + d) ∧ Fr (121 + d) ≤ 5) ∧ ∀ d : Int, 0 ≤ d → d < 10 → -5 ≤ Fr (131 + d) ∧ Fr (131 + d) ≤ 5
theorem PRL_grid {nw nh nr k w h rw n m c w' h' : Int} {f X Y Fr : Int → Int} (hk : 0 ≤ k) (hr : rw = 0) (H : PRL nw nh nr Fr k (0, w, h, rw, f, n, X, Y, m, c)) : PRL w' h' nr Fr (k + 4) (1, w', h', rw, f, n, X, Y, m, c) := by
  obtain ⟨h1, h2, h3, h4, h5, h6, h7, h8, h9, h10⟩ := H
  have := h1 rfl
  exact ⟨fun z => by omega, fun _ => ⟨by omega, rfl, rfl, by omega⟩, h3, h4, h5, h6, h7, h8, h9, h10⟩
theorem PRL_row {lt : Int → Int} {nw nh nr k w h rw n m c : Int} {f X Y Fr F2 : Int → Int} (hk : 0 < k) (ho : PSok (1, w, h, rw, f, n, X, Y, m, c)) (hlt : rw < h) (hF : ∀ j : Int, F2 j = if 11 * nr ≤ j ∧ j < 11 * nr + nw then isH lt k (j - 11 * nr) else Fr j) (H : PRL nw nh nr Fr k (1, w, h, rw, f, n, X, Y, m, c)) : PRL nw nh (nr + 1) F2 (k + w + 2) (1, w, h, rw + 1, zU f rw (rowP (isH lt k) 0 w), n, X, Y, m, c) := by
  obtain ⟨h1, h2, h3, h4, h5, h6, h7, h8, h9, h10⟩ := H
  obtain ⟨o1, o2, o3, o4, o5, o6, o7, o8, o9, o10, o11, o12⟩ := ho
  obtain ⟨-, e1, e2, e3⟩ := h2 rfl
  subst e1 e2 e3
  have hout : ∀ j : Int, 121 ≤ j → F2 j = Fr j := fun j hj => by rw [hF j, if_neg (by omega)]
  refine ⟨fun z => by omega, fun _ => ⟨by omega, rfl, rfl, rfl⟩, fun j j0 j1 => ?_, by rw [hout 141 (by omega)]; exact h4, fun d d0 d1 => by rw [hout _ (by omega), hout _ (by omega)]; exact h5 d d0 d1, by rw [hout 142 (by omega)]; exact h6, by rw [hout 143 (by omega)]; exact h7, by rw [hout 144 (by omega)]; exact h8, fun d d0 d1 => by rw [hout _ (by omega)]; exact h9 d d0 d1, fun d d0 d1 => by rw [hout _ (by omega)]; exact h10 d d0 d1⟩
  rw [hF j]
  by_cases e : j / 11 = nr
  · rw [e, zU_eq, rowP0_tb lt k (by omega) (by omega)]
    by_cases q : j % 11 < nw
    · rw [if_pos (by omega), if_pos q, show j - 11 * nr = j % 11 by omega]
    · rw [if_neg (by omega), if_neg q, h3 j j0 j1, e]
      exact o6 nr (j % 11) (by omega) (by omega) (by omega) (by omega) (by omega)
  · rw [zU_ne _ _ e, if_neg (by omega)]
    exact h3 j j0 j1
theorem cnR_lo {R : Int → Int} {x y j : Int} (hn : 0 ≤ R 141 ∧ R 141 < 10) (h : j < 121 ∨ 142 ≤ j) : cnR R x y j = R j := by
  unfold cnR
  rw [zU_ne _ _ (by omega), zU_ne _ _ (by omega), zU_ne _ _ (by omega)]
theorem cnR_n {R : Int → Int} {x y : Int} : cnR R x y 141 = R 141 + 1 := zU_eq _ _ _
theorem cnR_X {R : Int → Int} {x y d : Int} (hn : 0 ≤ R 141 ∧ R 141 < 10) (h : 0 ≤ d ∧ d < 10) : cnR R x y (121 + d) = if d = R 141 then x else R (121 + d) := by
  unfold cnR
  rw [zU_ne _ _ (by omega), zU_ne _ _ (by omega)]
  by_cases e : d = R 141
  · rw [if_pos e, e, zU_eq]
  · rw [if_neg e, zU_ne _ _ (by omega)]
theorem cnR_Y {R : Int → Int} {x y d : Int} (hn : 0 ≤ R 141 ∧ R 141 < 10) (h : 0 ≤ d ∧ d < 10) : cnR R x y (131 + d) = if d = R 141 then y else R (131 + d) := by
  unfold cnR
  rw [zU_ne _ _ (by omega)]
  by_cases e : d = R 141
  · rw [if_pos e, e, zU_eq]
  · rw [if_neg e, zU_ne _ _ (by omega), zU_ne _ _ (by omega)]
theorem PRL_dot {nw nh nr k w h rw n m c x y : Int} {f X Y Fr : Int → Int} (hk : 0 < k) (hn : 0 ≤ Fr 141 ∧ Fr 141 < 10) (hx : -5 ≤ x ∧ x ≤ 5) (hy : -5 ≤ y ∧ y ≤ 5) (H : PRL nw nh nr Fr k (1, w, h, rw, f, n, X, Y, m, c)) : PRL nw nh nr (cnR Fr x y) (k + 4) (1, w, h, rw, f, n + 1, zU X n x, zU Y n y, m, c) := by
  obtain ⟨h1, h2, h3, h4, h5, h6, h7, h8, h9, h10⟩ := H
  obtain ⟨-, e1, e2, e3⟩ := h2 rfl
  refine ⟨fun z => by omega, fun _ => ⟨by omega, e1, e2, e3⟩, fun j j0 j1 => by rw [cnR_lo hn (by omega)]; exact h3 j j0 j1, by rw [cnR_n, h4], fun d d0 d1 => ?_, by rw [cnR_lo hn (by omega)]; exact h6, by rw [cnR_lo hn (by omega)]; exact h7, by rw [cnR_lo hn (by omega)]; exact h8, fun d d0 d1 => ?_, fun d d0 d1 => ?_⟩
  · rw [cnR_X hn (by omega), cnR_Y hn (by omega), h4]
    by_cases e : d = n
    · rw [if_pos e, if_pos e, e, zU_eq, zU_eq]; exact ⟨rfl, rfl⟩
    · rw [if_neg e, if_neg e, zU_ne _ _ e, zU_ne _ _ e]; exact h5 d d0 (by omega)
  · rw [cnR_X hn (by omega)]; split; exact hx; exact h9 d d0 d1
  · rw [cnR_Y hn (by omega)]; split; exact hy; exact h10 d d0 d1
theorem PRL_met {nw nh nr k w h rw n m c m' c' : Int} {f X Y Fr : Int → Int} (hk : 0 < k) (hn : 0 ≤ n ∧ n ≤ 10) (H : PRL nw nh nr Fr k (1, w, h, rw, f, n, X, Y, m, c)) : PRL nw nh nr (zU (zU Fr 142 m') 143 c') (k + 5) (1, w, h, rw, f, n, X, Y, m', c') := by
  obtain ⟨h1, h2, h3, h4, h5, h6, h7, h8, h9, h10⟩ := H
  obtain ⟨-, e1, e2, e3⟩ := h2 rfl
  have hz : ∀ j : Int, j ≠ 142 → j ≠ 143 → zU (zU Fr 142 m') 143 c' j = Fr j := fun j a b => by rw [zU_ne _ _ b, zU_ne _ _ a]
  exact ⟨fun z => by omega, fun _ => ⟨by omega, e1, e2, e3⟩, fun j j0 j1 => by rw [hz j (by omega) (by omega)]; exact h3 j j0 j1, by rw [hz _ (by omega) (by omega)]; exact h4, fun d d0 d1 => by rw [hz _ (by omega) (by omega), hz _ (by omega) (by omega)]; exact h5 d d0 d1, by rw [zU_ne _ _ (by decide), zU_eq], zU_eq _ _ _, by rw [hz _ (by omega) (by omega)]; exact h8, fun d d0 d1 => by rw [hz _ (by omega) (by omega)]; exact h9 d d0 d1, fun d d0 d1 => by rw [hz _ (by omega) (by omega)]; exact h10 d d0 d1⟩
theorem PRL_0 {nw nh : Int} {Fr X Y : Int → Int} (hz : ∀ j : Int, 0 ≤ j → j < 145 → j ≠ 143 → Fr j = 0) (h99 : Fr 143 = 99) : PRL nw nh 0 Fr 0 (0, 4, 4, 0, fun _ => 0, 0, X, Y, 0, 99) := by
  refine ⟨fun _ => ⟨rfl, rfl⟩, fun z => by omega, fun j j0 j1 => ?_, hz 141 (by decide) (by decide) (by decide), fun d d0 d1 => by omega, hz 142 (by decide) (by decide) (by decide), h99, hz 144 (by decide) (by decide) (by decide), fun d d0 d1 => ?_, fun d d0 d1 => ?_⟩
  · rw [hz j j0 (by omega) (by omega)]
    show 0 = tb 0 (j % 11)
    unfold tb
    simp
  · rw [hz _ (by omega) (by omega) (by omega)]; omega
  · rw [hz _ (by omega) (by omega) (by omega)]; omega
def MCH (N Cg : Int → Int) (ca cm : Int) (Cg2 : Int → Int) (ca2 cm2 : Int) : Prop := Cg2 = cpC N Cg ca 145 ∧ ca2 = (ca + 1) % 6 ∧ cm2 = min (cm + 1) 6
def MSA (N Cg : Int → Int) (ca cm : Int) (N2 Cg2 : Int → Int) (ca2 cm2 : Int) : Prop := N2 = N ∧ Cg2 = Cg ∧ ca2 = ca ∧ cm2 = cm
/-- FAR of all cells, as the reference lays them -/
def FAM (wi hi : Int) (N Fa : Int → Int) : Prop := ∀ x y : Int, 0 ≤ x → x < wi → 0 ≤ y → y < hi → Fa (11 * y + x) = farS N (N 142) (N 143) x y
