/-! ===== the first scene, read ===== -/
def lt0 : Int → Int := ltr (txI 153) 153
def fE : Nat → Int → Int
  | 0 => fun _ => 0
  | n + 1 => zU (fE n) n (fr0 n)
def XE : Nat → Int → Int
  | 0 => fun _ => 0
  | n + 1 => zU (XE n) n (fd0 (2 * (n : Int)))
def YE : Nat → Int → Int
  | 0 => fun _ => 0
  | n + 1 => zU (YE n) n (fd0 (2 * (n : Int) + 1))
theorem rd_g : itm lt0 0 (0, 4, 4, 0, (fun _ => 0), 0, (fun _ => 0), (fun _ => 0), 0, 99) = some (4, (1, 10, 10, 0, fE 0, 0, XE 0, YE 0, 0, 99)) := by
  rw [itm_eq, if_pos rfl, if_pos (by decide +kernel), pif_t (by unfold cG; decide +kernel), show sdO (lt0 (0 + 1)) = 10 by decide +kernel, show sdO (lt0 (0 + 2)) = 10 by decide +kernel]
  rfl
theorem rd_r0 : itm lt0 4 (1, 10, 10, 0, fE 0, 0, XE 0, YE 0, 0, 99) = some (12, (1, 10, 10, 1, fE 1, 0, XE 0, YE 0, 0, 99)) := by
  rw [itm_eq, if_neg (by decide), if_pos (by decide +kernel), pif_t ⟨by decide, fun u a b => by rcases (by omega : u = 0 ∨ u = 1 ∨ u = 2 ∨ u = 3 ∨ u = 4 ∨ u = 5 ∨ u = 6 ∨ u = 7 ∨ u = 8 ∨ u = 9) with rfl | rfl | rfl | rfl | rfl | rfl | rfl | rfl | rfl | rfl <;> decide +kernel, by decide +kernel⟩, show rowP (isH lt0 4) 0 10 = fr0 0 by decide +kernel]
  rfl
theorem rd_r1 : itm lt0 16 (1, 10, 10, 1, fE 1, 0, XE 0, YE 0, 0, 99) = some (12, (1, 10, 10, 2, fE 2, 0, XE 0, YE 0, 0, 99)) := by
  rw [itm_eq, if_neg (by decide), if_pos (by decide +kernel), pif_t ⟨by decide, fun u a b => by rcases (by omega : u = 0 ∨ u = 1 ∨ u = 2 ∨ u = 3 ∨ u = 4 ∨ u = 5 ∨ u = 6 ∨ u = 7 ∨ u = 8 ∨ u = 9) with rfl | rfl | rfl | rfl | rfl | rfl | rfl | rfl | rfl | rfl <;> decide +kernel, by decide +kernel⟩, show rowP (isH lt0 16) 0 10 = fr0 1 by decide +kernel]
  rfl
theorem rd_r2 : itm lt0 28 (1, 10, 10, 2, fE 2, 0, XE 0, YE 0, 0, 99) = some (12, (1, 10, 10, 3, fE 3, 0, XE 0, YE 0, 0, 99)) := by
  rw [itm_eq, if_neg (by decide), if_pos (by decide +kernel), pif_t ⟨by decide, fun u a b => by rcases (by omega : u = 0 ∨ u = 1 ∨ u = 2 ∨ u = 3 ∨ u = 4 ∨ u = 5 ∨ u = 6 ∨ u = 7 ∨ u = 8 ∨ u = 9) with rfl | rfl | rfl | rfl | rfl | rfl | rfl | rfl | rfl | rfl <;> decide +kernel, by decide +kernel⟩, show rowP (isH lt0 28) 0 10 = fr0 2 by decide +kernel]
  rfl
theorem rd_r3 : itm lt0 40 (1, 10, 10, 3, fE 3, 0, XE 0, YE 0, 0, 99) = some (12, (1, 10, 10, 4, fE 4, 0, XE 0, YE 0, 0, 99)) := by
  rw [itm_eq, if_neg (by decide), if_pos (by decide +kernel), pif_t ⟨by decide, fun u a b => by rcases (by omega : u = 0 ∨ u = 1 ∨ u = 2 ∨ u = 3 ∨ u = 4 ∨ u = 5 ∨ u = 6 ∨ u = 7 ∨ u = 8 ∨ u = 9) with rfl | rfl | rfl | rfl | rfl | rfl | rfl | rfl | rfl | rfl <;> decide +kernel, by decide +kernel⟩, show rowP (isH lt0 40) 0 10 = fr0 3 by decide +kernel]
  rfl
theorem rd_r4 : itm lt0 52 (1, 10, 10, 4, fE 4, 0, XE 0, YE 0, 0, 99) = some (12, (1, 10, 10, 5, fE 5, 0, XE 0, YE 0, 0, 99)) := by
  rw [itm_eq, if_neg (by decide), if_pos (by decide +kernel), pif_t ⟨by decide, fun u a b => by rcases (by omega : u = 0 ∨ u = 1 ∨ u = 2 ∨ u = 3 ∨ u = 4 ∨ u = 5 ∨ u = 6 ∨ u = 7 ∨ u = 8 ∨ u = 9) with rfl | rfl | rfl | rfl | rfl | rfl | rfl | rfl | rfl | rfl <;> decide +kernel, by decide +kernel⟩, show rowP (isH lt0 52) 0 10 = fr0 4 by decide +kernel]
  rfl
theorem rd_r5 : itm lt0 64 (1, 10, 10, 5, fE 5, 0, XE 0, YE 0, 0, 99) = some (12, (1, 10, 10, 6, fE 6, 0, XE 0, YE 0, 0, 99)) := by
  rw [itm_eq, if_neg (by decide), if_pos (by decide +kernel), pif_t ⟨by decide, fun u a b => by rcases (by omega : u = 0 ∨ u = 1 ∨ u = 2 ∨ u = 3 ∨ u = 4 ∨ u = 5 ∨ u = 6 ∨ u = 7 ∨ u = 8 ∨ u = 9) with rfl | rfl | rfl | rfl | rfl | rfl | rfl | rfl | rfl | rfl <;> decide +kernel, by decide +kernel⟩, show rowP (isH lt0 64) 0 10 = fr0 5 by decide +kernel]
  rfl
theorem rd_r6 : itm lt0 76 (1, 10, 10, 6, fE 6, 0, XE 0, YE 0, 0, 99) = some (12, (1, 10, 10, 7, fE 7, 0, XE 0, YE 0, 0, 99)) := by
  rw [itm_eq, if_neg (by decide), if_pos (by decide +kernel), pif_t ⟨by decide, fun u a b => by rcases (by omega : u = 0 ∨ u = 1 ∨ u = 2 ∨ u = 3 ∨ u = 4 ∨ u = 5 ∨ u = 6 ∨ u = 7 ∨ u = 8 ∨ u = 9) with rfl | rfl | rfl | rfl | rfl | rfl | rfl | rfl | rfl | rfl <;> decide +kernel, by decide +kernel⟩, show rowP (isH lt0 76) 0 10 = fr0 6 by decide +kernel]
  rfl
theorem rd_r7 : itm lt0 88 (1, 10, 10, 7, fE 7, 0, XE 0, YE 0, 0, 99) = some (12, (1, 10, 10, 8, fE 8, 0, XE 0, YE 0, 0, 99)) := by
  rw [itm_eq, if_neg (by decide), if_pos (by decide +kernel), pif_t ⟨by decide, fun u a b => by rcases (by omega : u = 0 ∨ u = 1 ∨ u = 2 ∨ u = 3 ∨ u = 4 ∨ u = 5 ∨ u = 6 ∨ u = 7 ∨ u = 8 ∨ u = 9) with rfl | rfl | rfl | rfl | rfl | rfl | rfl | rfl | rfl | rfl <;> decide +kernel, by decide +kernel⟩, show rowP (isH lt0 88) 0 10 = fr0 7 by decide +kernel]
  rfl
theorem rd_r8 : itm lt0 100 (1, 10, 10, 8, fE 8, 0, XE 0, YE 0, 0, 99) = some (12, (1, 10, 10, 9, fE 9, 0, XE 0, YE 0, 0, 99)) := by
  rw [itm_eq, if_neg (by decide), if_pos (by decide +kernel), pif_t ⟨by decide, fun u a b => by rcases (by omega : u = 0 ∨ u = 1 ∨ u = 2 ∨ u = 3 ∨ u = 4 ∨ u = 5 ∨ u = 6 ∨ u = 7 ∨ u = 8 ∨ u = 9) with rfl | rfl | rfl | rfl | rfl | rfl | rfl | rfl | rfl | rfl <;> decide +kernel, by decide +kernel⟩, show rowP (isH lt0 100) 0 10 = fr0 8 by decide +kernel]
  rfl
theorem rd_r9 : itm lt0 112 (1, 10, 10, 9, fE 9, 0, XE 0, YE 0, 0, 99) = some (12, (1, 10, 10, 10, fE 10, 0, XE 0, YE 0, 0, 99)) := by
  rw [itm_eq, if_neg (by decide), if_pos (by decide +kernel), pif_t ⟨by decide, fun u a b => by rcases (by omega : u = 0 ∨ u = 1 ∨ u = 2 ∨ u = 3 ∨ u = 4 ∨ u = 5 ∨ u = 6 ∨ u = 7 ∨ u = 8 ∨ u = 9) with rfl | rfl | rfl | rfl | rfl | rfl | rfl | rfl | rfl | rfl <;> decide +kernel, by decide +kernel⟩, show rowP (isH lt0 112) 0 10 = fr0 9 by decide +kernel]
  rfl
theorem rd_d0 : itm lt0 124 (1, 10, 10, 10, fE 10, 0, XE 0, YE 0, 0, 99) = some (4, (1, 10, 10, 10, fE 10, 1, XE 1, YE 1, 0, 99)) := by
  rw [itm_eq, if_neg (by decide), if_neg (by decide +kernel), if_pos (by decide +kernel), pif_t ⟨by decide +kernel, by decide +kernel, by decide +kernel, by decide, fun d a b => by omega⟩, show lt0 (124 + 1) - 102 = fd0 0 by decide +kernel, show lt0 (124 + 2) - 102 = fd0 1 by decide +kernel]
  rfl
theorem rd_d1 : itm lt0 128 (1, 10, 10, 10, fE 10, 1, XE 1, YE 1, 0, 99) = some (4, (1, 10, 10, 10, fE 10, 2, XE 2, YE 2, 0, 99)) := by
  rw [itm_eq, if_neg (by decide), if_neg (by decide +kernel), if_pos (by decide +kernel), pif_t ⟨by decide +kernel, by decide +kernel, by decide +kernel, by decide, fun d a b => by rcases (by omega : d = 0) with rfl <;> decide +kernel⟩, show lt0 (128 + 1) - 102 = fd0 2 by decide +kernel, show lt0 (128 + 2) - 102 = fd0 3 by decide +kernel]
  rfl
theorem rd_d2 : itm lt0 132 (1, 10, 10, 10, fE 10, 2, XE 2, YE 2, 0, 99) = some (4, (1, 10, 10, 10, fE 10, 3, XE 3, YE 3, 0, 99)) := by
  rw [itm_eq, if_neg (by decide), if_neg (by decide +kernel), if_pos (by decide +kernel), pif_t ⟨by decide +kernel, by decide +kernel, by decide +kernel, by decide, fun d a b => by rcases (by omega : d = 0 ∨ d = 1) with rfl | rfl <;> decide +kernel⟩, show lt0 (132 + 1) - 102 = fd0 4 by decide +kernel, show lt0 (132 + 2) - 102 = fd0 5 by decide +kernel]
  rfl
theorem rd_d3 : itm lt0 136 (1, 10, 10, 10, fE 10, 3, XE 3, YE 3, 0, 99) = some (4, (1, 10, 10, 10, fE 10, 4, XE 4, YE 4, 0, 99)) := by
  rw [itm_eq, if_neg (by decide), if_neg (by decide +kernel), if_pos (by decide +kernel), pif_t ⟨by decide +kernel, by decide +kernel, by decide +kernel, by decide, fun d a b => by rcases (by omega : d = 0 ∨ d = 1 ∨ d = 2) with rfl | rfl | rfl <;> decide +kernel⟩, show lt0 (136 + 1) - 102 = fd0 6 by decide +kernel, show lt0 (136 + 2) - 102 = fd0 7 by decide +kernel]
  rfl
theorem rd_d4 : itm lt0 140 (1, 10, 10, 10, fE 10, 4, XE 4, YE 4, 0, 99) = some (4, (1, 10, 10, 10, fE 10, 5, XE 5, YE 5, 0, 99)) := by
  rw [itm_eq, if_neg (by decide), if_neg (by decide +kernel), if_pos (by decide +kernel), pif_t ⟨by decide +kernel, by decide +kernel, by decide +kernel, by decide, fun d a b => by rcases (by omega : d = 0 ∨ d = 1 ∨ d = 2 ∨ d = 3) with rfl | rfl | rfl | rfl <;> decide +kernel⟩, show lt0 (140 + 1) - 102 = fd0 8 by decide +kernel, show lt0 (140 + 2) - 102 = fd0 9 by decide +kernel]
  rfl
theorem rd_d5 : itm lt0 144 (1, 10, 10, 10, fE 10, 5, XE 5, YE 5, 0, 99) = some (4, (1, 10, 10, 10, fE 10, 6, XE 6, YE 6, 0, 99)) := by
  rw [itm_eq, if_neg (by decide), if_neg (by decide +kernel), if_pos (by decide +kernel), pif_t ⟨by decide +kernel, by decide +kernel, by decide +kernel, by decide, fun d a b => by rcases (by omega : d = 0 ∨ d = 1 ∨ d = 2 ∨ d = 3 ∨ d = 4) with rfl | rfl | rfl | rfl | rfl <;> decide +kernel⟩, show lt0 (144 + 1) - 102 = fd0 10 by decide +kernel, show lt0 (144 + 2) - 102 = fd0 11 by decide +kernel]
  rfl
theorem rd_m : itm lt0 148 (1, 10, 10, 10, fE 10, 6, XE 6, YE 6, 0, 99) = some (5, (1, 10, 10, 10, fE 10, 6, XE 6, YE 6, 1, 20)) := by
  rw [itm_eq, if_neg (by decide), if_neg (by decide +kernel), if_neg (by decide +kernel), if_pos (by decide +kernel), pif_t (by unfold cM; decide +kernel), show lt0 (148 + 1) - 48 = 1 by decide +kernel, show 10 * (lt0 (148 + 2) - 48) + (lt0 (148 + 3) - 48) = 20 by decide +kernel]
theorem rd0 : rdA (ltr (txI 153) 153) 153 (fun _ => 0) (fun _ => 0) = (-4, (1, 10, 10, 10, fE 10, 6, XE 6, YE 6, 1, 20)) := by
  show prs lt0 153 200 (0, 4, 4, 0, fun _ => 0, 0, fun _ => 0, fun _ => 0, 0, 99) 0 = _
  refine (prs_go 199 (by decide) rd_g).trans ?_
  refine (prs_go 198 (by decide) rd_r0).trans ?_
  refine (prs_go 197 (by decide) rd_r1).trans ?_
  refine (prs_go 196 (by decide) rd_r2).trans ?_
  refine (prs_go 195 (by decide) rd_r3).trans ?_
  refine (prs_go 194 (by decide) rd_r4).trans ?_
  refine (prs_go 193 (by decide) rd_r5).trans ?_
  refine (prs_go 192 (by decide) rd_r6).trans ?_
  refine (prs_go 191 (by decide) rd_r7).trans ?_
  refine (prs_go 190 (by decide) rd_r8).trans ?_
  refine (prs_go 189 (by decide) rd_r9).trans ?_
  refine (prs_go 188 (by decide) rd_d0).trans ?_
  refine (prs_go 187 (by decide) rd_d1).trans ?_
  refine (prs_go 186 (by decide) rd_d2).trans ?_
  refine (prs_go 185 (by decide) rd_d3).trans ?_
  refine (prs_go 184 (by decide) rd_d4).trans ?_
  refine (prs_go 183 (by decide) rd_d5).trans ?_
  refine (prs_go 182 (by decide) rd_m).trans ?_
  exact prs_end _ _ (by decide)
