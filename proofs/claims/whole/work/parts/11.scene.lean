theorem z_half {v x : Int} (hv : 0 ≤ v ∧ v ≤ 2147483647) (hx : 0 ≤ x ∧ x < 32) : 0 ≤ v / 2 ^ x.toNat ∧ v / 2 ^ x.toNat ≤ 2147483647 := by
  have h1 : 0 ≤ v / 2 ^ x.toNat := Int.ediv_nonneg hv.1 (Int.le_of_lt (Int.pow_pos (by decide)))
  have h2 : v / 2 ^ x.toNat ≤ v := Int.ediv_le_self _ hv.1
  omega
theorem two_nn (n : Nat) : (0 : Int) ≤ 2 ^ n := Int.le_of_lt (Int.pow_pos (by decide))
/-- a row with the place d taken out, as far as j -/
def rmI (X : Int → Int) (d j : Int) : Int → Int := fun k => if d ≤ k ∧ k < j - 1 then X (k + 1) else X k
theorem rmI_0 (X : Int → Int) (d : Int) : rmI X d (d + 1) = X := by
  funext k
  exact if_neg (by omega)
theorem rmI_s (X : Int → Int) {d j : Int} (h : d + 1 ≤ j) : zU (rmI X d j) (j - 1) (rmI X d j j) = rmI X d (j + 1) := by
  funext k
  unfold zU rmI
  by_cases hk : k = j - 1
  · rw [if_pos hk, if_neg (by omega), if_pos (by omega), hk]
    congr 1
    omega
  · rw [if_neg hk]
    by_cases h1 : d ≤ k ∧ k < j - 1
    · rw [if_pos h1, if_pos (by omega)]
    · rw [if_neg h1, if_neg (by omega)]
set_option maxHeartbeats 1000000 in
set_option maxRecDepth 100000 in
theorem c_X7_has (l : Launch) (g : Gx) (h0 : Nat) (h0r : Nat) (h0x : Nat) (h0y : Nat) (w : Int) (h : Int) (n : Int) (m : Int) (c : Int) (x : Int) (y : Int) (hw : 4 ≤ w ∧ w ≤ 11) (hh : 4 ≤ h ∧ h ≤ 11) (hx : -2147483648 ≤ x ∧ x ≤ 2147483647) (hy : -2147483648 ≤ y ∧ y ≤ 2147483647) (sz : Nat) : Met l yX7_has (.code yX7_has cX7_has 3 (some .boolean) :: wsL_law) { frames := 0, cells := 0, slots := 0, locals := 0 } (PR g [.ref h0, vi x, vi y] [(h0, oB 6 [vi w, vi h, .ref h0r, .ref h0x, .ref h0y, vi n, vi m, vi c])] sz) (PI (S := Unit) g (fun r u_ => (r = 1 ∧ 0 ≤ x ∧ x < w ∧ 0 ≤ y ∧ y < h) ∨ (r = 0 ∧ ¬ (0 ≤ x ∧ x < w ∧ 0 ≤ y ∧ y < h))) (fun u_ => [(h0, oB 6 [vi w, vi h, .ref h0r, .ref h0x, .ref h0y, vi n, vi m, vi c])]) [(h0, oB 6 [vi w, vi h, .ref h0r, .ref h0x, .ref h0y, vi n, vi m, vi c])] sz) 0 0 (va_A [(h0, oB 6 [vi w, vi h, .ref h0r, .ref h0x, .ref h0y, vi n, vi m, vi c])] sz) := by
  refine meet (own := RX7) rfl (plainFor_of_name (by decide +kernel)) rfl (fun p_ e_ s_ m_ args_ below_ meth_ c_ C hnm => ?_)
  refine r_at (ws' := [(h0, oB 6 [vi w, vi h, .ref h0r, .ref h0x, .ref h0y, vi n, vi m, vi c])]) (lv' := [(0, .ref h0), (1, vi x), (2, vi y)]) rfl rfl ?_
  refine r_iload_n C dX7_has_0 1 rfl ?_
  refine r_if_lt C 28 dX7_has_1 rfl (by omega) (fun c_1 => ?_) (fun c_1 => ?_)
  · skip
    refine r_iconst C dX7_has_28 ?_
    exact e_z C () dX7_has_29 (by omega) (show (0 = 1 ∧ 0 ≤ x ∧ x < w ∧ 0 ≤ y ∧ y < h) ∨ (0 = 0 ∧ ¬ (0 ≤ x ∧ x < w ∧ 0 ≤ y ∧ y < h)) from by omega) rfl
  · skip
    refine r_iload_n C dX7_has_4 1 rfl ?_
    refine r_aload_n C dX7_has_5 0 rfl ?_
    refine gf_X7_9 C dX7_has_6 0 rfl rfl ?_
    refine r_icmp_ge C 28 dX7_has_9 rfl (by omega) (fun c_2 => ?_) (fun c_2 => ?_)
    · skip
      refine r_iconst C dX7_has_28 ?_
      exact e_z C () dX7_has_29 (by omega) (show (0 = 1 ∧ 0 ≤ x ∧ x < w ∧ 0 ≤ y ∧ y < h) ∨ (0 = 0 ∧ ¬ (0 ≤ x ∧ x < w ∧ 0 ≤ y ∧ y < h)) from by omega) rfl
    · skip
      refine r_iload_n C dX7_has_12 2 rfl ?_
      refine r_if_lt C 28 dX7_has_13 rfl (by omega) (fun c_3 => ?_) (fun c_3 => ?_)
      · skip
        refine r_iconst C dX7_has_28 ?_
        exact e_z C () dX7_has_29 (by omega) (show (0 = 1 ∧ 0 ≤ x ∧ x < w ∧ 0 ≤ y ∧ y < h) ∨ (0 = 0 ∧ ¬ (0 ≤ x ∧ x < w ∧ 0 ≤ y ∧ y < h)) from by omega) rfl
      · skip
        refine r_iload_n C dX7_has_16 2 rfl ?_
        refine r_aload_n C dX7_has_17 0 rfl ?_
        refine gf_X7_15 C dX7_has_18 0 rfl rfl ?_
        refine r_icmp_ge C 28 dX7_has_21 rfl (by omega) (fun c_4 => ?_) (fun c_4 => ?_)
        · skip
          refine r_iconst C dX7_has_28 ?_
          exact e_z C () dX7_has_29 (by omega) (show (0 = 1 ∧ 0 ≤ x ∧ x < w ∧ 0 ≤ y ∧ y < h) ∨ (0 = 0 ∧ ¬ (0 ≤ x ∧ x < w ∧ 0 ≤ y ∧ y < h)) from by omega) rfl
        · skip
          refine r_iconst C dX7_has_24 ?_
          refine r_goto C 29 dX7_has_25 rfl ?_
          exact e_z C () dX7_has_29 (by omega) (show (1 = 1 ∧ 0 ≤ x ∧ x < w ∧ 0 ≤ y ∧ y < h) ∨ (1 = 0 ∧ ¬ (0 ≤ x ∧ x < w ∧ 0 ≤ y ∧ y < h)) from by omega) rfl
set_option maxHeartbeats 1000000 in
set_option maxRecDepth 100000 in
theorem c_X7_edgeAt (l : Launch) (g : Gx) (h0 : Nat) (h0r : Nat) (h0x : Nat) (h0y : Nat) (w : Int) (h : Int) (n : Int) (m : Int) (c : Int) (f : Int → Int) (x : Int) (y : Int) (hw : 4 ≤ w ∧ w ≤ 11) (hh : 4 ≤ h ∧ h ≤ 11) (hf : ∀ k : Int, 0 ≤ k → k < 11 → 0 ≤ f k ∧ f k ≤ 2047) (hx : -2147483648 ≤ x ∧ x ≤ 2147483647) (hy : -2147483648 ≤ y ∧ y ≤ 2147483647) (sz : Nat) : Met l yX7_edgeAt (.code yX7_edgeAt cX7_edgeAt 3 (some .int) :: wsL_law) { frames := 1, cells := 0, slots := 0, locals := 22 } (PR g [.ref h0, vi x, vi y] [(h0, oB 6 [vi w, vi h, .ref h0r, .ref h0x, .ref h0y, vi n, vi m, vi c]), (h0r, aI g 11 f)] sz) (PI (S := Unit) g (fun r u_ => r = eA w h f x y) (fun u_ => [(h0, oB 6 [vi w, vi h, .ref h0r, .ref h0x, .ref h0y, vi n, vi m, vi c]), (h0r, aI g 11 f)]) [(h0, oB 6 [vi w, vi h, .ref h0r, .ref h0x, .ref h0y, vi n, vi m, vi c]), (h0r, aI g 11 f)] sz) 0 0 (va_A [(h0, oB 6 [vi w, vi h, .ref h0r, .ref h0x, .ref h0y, vi n, vi m, vi c]), (h0r, aI g 11 f)] sz) := by
  refine meet (own := RX7) rfl (plainFor_of_name (by decide +kernel)) rfl (fun p_ e_ s_ m_ args_ below_ meth_ c_ C hnm => ?_)
  refine r_at (ws' := [(h0, oB 6 [vi w, vi h, .ref h0r, .ref h0x, .ref h0y, vi n, vi m, vi c]), (h0r, aI g 11 f)]) (lv' := [(0, .ref h0), (1, vi x), (2, vi y)]) rfl rfl ?_
  refine r_aload_n C dX7_edgeAt_0 0 rfl ?_
  refine r_iload_n C dX7_edgeAt_1 1 rfl ?_
  refine r_iload_n C dX7_edgeAt_2 2 rfl ?_
  refine k_Vi C kv_X7_37 (fun sz => c_X7_has l g h0 h0r h0x h0y w h n m c x y (by omega) (by omega) (by omega) (by omega) sz) dX7_edgeAt_3 rfl rfl rfl ⟨rfl, rfl⟩ 0 6 rfl rfl rfl [0] rfl rfl (fun _ => rfl) (ws' := fun u_ => [(h0, oB 6 [vi w, vi h, .ref h0r, .ref h0x, .ref h0y, vi n, vi m, vi c]), (h0r, aI g 11 f)]) (fun _ => rfl) (fun r_3 u_ p_3 => ?_)
  have p_3 : (r_3 = 1 ∧ 0 ≤ x ∧ x < w ∧ 0 ≤ y ∧ y < h) ∨ (r_3 = 0 ∧ ¬ (0 ≤ x ∧ x < w ∧ 0 ≤ y ∧ y < h)) := p_3
  refine r_if_eq C 22 dX7_edgeAt_6 rfl (by omega) (fun c_1 => ?_) (fun c_1 => ?_)
  · skip
    refine r_iconst C dX7_edgeAt_22 ?_
    exact e_i C () dX7_edgeAt_23 (show 0 = eA w h f x y from by unfold eA; first | rw [if_pos (by omega)] | rw [if_neg (by omega)]) rfl
  · skip
    refine r_aload_n C dX7_edgeAt_9 0 rfl ?_
    refine gf_X7_18 C dX7_edgeAt_10 0 rfl rfl ?_
    refine r_iload_n C dX7_edgeAt_13 2 rfl ?_
    refine r_iald C dX7_edgeAt_14 1 rfl rfl (by omega) ?_
    have b_14 := hf y (by omega) (by omega)
    refine r_iload_n C dX7_edgeAt_15 1 rfl ?_
    refine r_ishr C (z := ((f y) / 2 ^ (x).toNat)) dX7_edgeAt_16 (z_shr (by omega) (by omega)) ?_
    refine r_iconst C dX7_edgeAt_17 ?_
    refine r_iand C (z := (tb (f y) x)) dX7_edgeAt_18 (z_and1 (z_half (by omega) (by omega))) ?_
    refine r_goto C 23 dX7_edgeAt_19 rfl ?_
    exact e_i C () dX7_edgeAt_23 (show (tb (f y) x) = eA w h f x y from by unfold eA; first | rw [if_pos (by omega)] | rw [if_neg (by omega)]) rfl
set_option maxHeartbeats 1000000 in
set_option maxRecDepth 100000 in
theorem c_X7_flipEdge (l : Launch) (g : Gx) (h0 : Nat) (h0r : Nat) (h0x : Nat) (h0y : Nat) (w : Int) (h : Int) (n : Int) (m : Int) (c : Int) (f : Int → Int) (x : Int) (y : Int) (hw : 4 ≤ w ∧ w ≤ 11) (hh : 4 ≤ h ∧ h ≤ 11) (hf : ∀ k : Int, 0 ≤ k → k < 11 → 0 ≤ f k ∧ f k ≤ 2047) (hx : -2147483648 ≤ x ∧ x ≤ 2147483647) (hy : -2147483648 ≤ y ∧ y ≤ 2147483647) (hg : 0 ≤ x ∧ x < w ∧ 0 ≤ y ∧ y < h) (sz : Nat) : Met l yX7_flipEdge (.code yX7_flipEdge cX7_flipEdge 3 none :: wsL_law) { frames := 1, cells := 0, slots := 0, locals := 22 } (PR g [.ref h0, vi x, vi y] [(h0, oB 6 [vi w, vi h, .ref h0r, .ref h0x, .ref h0y, vi n, vi m, vi c]), (h0r, aI g 11 f)] sz) (PV (S := Unit) g (fun u_ => True) (fun u_ => [(h0, oB 6 [vi w, vi h, .ref h0r, .ref h0x, .ref h0y, vi n, vi m, vi c]), (h0r, aI g 11 (zU f y (xoI (f y) (2 ^ x.toNat))))]) [(h0, oB 6 [vi w, vi h, .ref h0r, .ref h0x, .ref h0y, vi n, vi m, vi c]), (h0r, aI g 11 f)] sz) 0 0 (va_A [(h0, oB 6 [vi w, vi h, .ref h0r, .ref h0x, .ref h0y, vi n, vi m, vi c]), (h0r, aI g 11 f)] sz) := by
  refine meet (own := RX7) rfl (plainFor_of_name (by decide +kernel)) rfl (fun p_ e_ s_ m_ args_ below_ meth_ c_ C hnm => ?_)
  refine r_at (ws' := [(h0, oB 6 [vi w, vi h, .ref h0r, .ref h0x, .ref h0y, vi n, vi m, vi c]), (h0r, aI g 11 f)]) (lv' := [(0, .ref h0), (1, vi x), (2, vi y)]) rfl rfl ?_
  refine r_aload_n C dX7_flipEdge_0 0 rfl ?_
  refine r_iload_n C dX7_flipEdge_1 1 rfl ?_
  refine r_iload_n C dX7_flipEdge_2 2 rfl ?_
  refine k_Vi C kv_X7_37 (fun sz => c_X7_has l g h0 h0r h0x h0y w h n m c x y (by omega) (by omega) (by omega) (by omega) sz) dX7_flipEdge_3 rfl rfl rfl ⟨rfl, rfl⟩ 0 6 rfl rfl rfl [0] rfl rfl (fun _ => rfl) (ws' := fun u_ => [(h0, oB 6 [vi w, vi h, .ref h0r, .ref h0x, .ref h0y, vi n, vi m, vi c]), (h0r, aI g 11 f)]) (fun _ => rfl) (fun r_3 u_ p_3 => ?_)
  have p_3 : (r_3 = 1 ∧ 0 ≤ x ∧ x < w ∧ 0 ≤ y ∧ y < h) ∨ (r_3 = 0 ∧ ¬ (0 ≤ x ∧ x < w ∧ 0 ≤ y ∧ y < h)) := p_3
  refine r_if_eq C 21 dX7_flipEdge_6 rfl (by omega) (fun c_1 => ?_) (fun c_1 => ?_)
  · skip
    exact absurd hg (by omega)
  · skip
    refine r_aload_n C dX7_flipEdge_9 0 rfl ?_
    refine gf_X7_18 C dX7_flipEdge_10 0 rfl rfl ?_
    refine r_iload_n C dX7_flipEdge_13 2 rfl ?_
    refine r_dup2 C dX7_flipEdge_14 rfl rfl ?_
    refine r_iald C dX7_flipEdge_15 1 rfl rfl (by omega) ?_
    have b_15 := hf y (by omega) (by omega)
    refine r_iconst C dX7_flipEdge_16 ?_
    refine r_iload_n C dX7_flipEdge_17 1 rfl ?_
    refine r_ishl C (z := (2 ^ (x).toNat)) dX7_flipEdge_18 (z_shl (by omega)) ?_
    refine r_ixor C (z := (xoI (f y) (2 ^ x.toNat))) dX7_flipEdge_19 (z_xor (by omega) (two_nn _)) ?_
    refine r_iast C (ws' := [(h0, oB 6 [vi w, vi h, .ref h0r, .ref h0x, .ref h0y, vi n, vi m, vi c]), (h0r, aI g 11 (zU f y (xoI (f y) (2 ^ x.toNat))))]) dX7_flipEdge_20 1 rfl rfl (by omega) rfl ?_
    exact e_v C () dX7_flipEdge_21 (trivial) rfl
set_option maxHeartbeats 1000000 in
set_option maxRecDepth 100000 in
theorem c_X7_clearEdges (l : Launch) (g : Gx) (h0 : Nat) (h0r : Nat) (h0x : Nat) (h0y : Nat) (w : Int) (h : Int) (n : Int) (m : Int) (c : Int) (f : Int → Int) (q1 : Nat) (G : Int → Int) (hf : ∀ k : Int, 0 ≤ k → k < 11 → 0 ≤ f k ∧ f k ≤ 2047) (hG : ∀ k : Int, 0 ≤ k → k < 11 → 0 ≤ G k ∧ G k ≤ 2047) (sz : Nat) : Met l yX7_clearEdges (.code yX7_clearEdges cX7_clearEdges 3 none :: wsL_law) { frames := 0, cells := 0, slots := 0, locals := 0 } (PR g [.ref h0, .ref q1] [(h0, oB 6 [vi w, vi h, .ref h0r, .ref h0x, .ref h0y, vi n, vi m, vi c]), (h0r, aI g 11 f), (q1, aI g 11 G)] sz) (PV (S := Unit) g (fun u_ => True) (fun u_ => [(h0, oB 6 [vi w, vi h, .ref h0r, .ref h0x, .ref h0y, vi n, vi m, vi c]), (h0r, aI g 11 (fun k => anI (f k) (G k))), (q1, aI g 11 G)]) [(h0, oB 6 [vi w, vi h, .ref h0r, .ref h0x, .ref h0y, vi n, vi m, vi c]), (h0r, aI g 11 f), (q1, aI g 11 G)] sz) 0 0 (va_A [(h0, oB 6 [vi w, vi h, .ref h0r, .ref h0x, .ref h0y, vi n, vi m, vi c]), (h0r, aI g 11 f), (q1, aI g 11 G)] sz) := by
  refine meet (own := RX7) rfl (plainFor_of_name (by decide +kernel)) rfl (fun p_ e_ s_ m_ args_ below_ meth_ c_ C hnm => ?_)
  refine r_at (ws' := [(h0, oB 6 [vi w, vi h, .ref h0r, .ref h0x, .ref h0y, vi n, vi m, vi c]), (h0r, aI g 11 f), (q1, aI g 11 G)]) (lv' := [(0, .ref h0), (1, .ref q1)]) rfl rfl ?_
  refine r_iconst C dX7_clearEdges_0 ?_
  refine r_istore_n C (lv' := [(2, vi 0), (0, .ref h0), (1, .ref q1)]) dX7_clearEdges_1 rfl rfl ?_
  refine r_lv (lv' := [(0, .ref h0), (1, .ref q1), (2, vi 0)]) [1, 2, 0] rfl ?_
  refine r_loop (σ := Int × (Int → Int)) (fun z_ => (0 ≤ z_.1 ∧ z_.1 ≤ 11) ∧ (z_.2 = cpI (fun k => anI (f k) (G k)) f z_.1)) (fun z_ => 11 - z_.1) (fun z_ => [(h0, oB 6 [vi w, vi h, .ref h0r, .ref h0x, .ref h0y, vi n, vi m, vi c]), (h0r, aI g 11 z_.2), (q1, aI g 11 G)]) (fun z_ => [(0, .ref h0), (1, .ref q1), (2, vi z_.1)]) (fun z_ hz => ?_) (fun z_ hz ih_2 => ?_) (((0, f) : Int × (Int → Int))) ?_
  · obtain ⟨i, F⟩ := z_
    obtain ⟨hi, hF⟩ := hz
    have hi : 0 ≤ i ∧ i ≤ 11 := hi
    have hF : F = cpI (fun k => anI (f k) (G k)) f i := hF
    show (0 : Int) ≤ 11 - i
    omega
  rotate_left
  · show (0 ≤ 0 ∧ 0 ≤ 11) ∧ (f = cpI (fun k => anI (f k) (G k)) f 0)
    exact ⟨(by decide), ((cpI_0 _ _).symm)⟩
  obtain ⟨i, F⟩ := z_
  obtain ⟨hi, hF⟩ := hz
  have hi : 0 ≤ i ∧ i ≤ 11 := hi
  have hF : F = cpI (fun k => anI (f k) (G k)) f i := hF
  refine r_at (ws' := [(h0, oB 6 [vi w, vi h, .ref h0r, .ref h0x, .ref h0y, vi n, vi m, vi c]), (h0r, aI g 11 F), (q1, aI g 11 G)]) (lv' := [(0, .ref h0), (1, .ref q1), (2, vi i)]) rfl rfl ?_
  refine r_iload_n C dX7_clearEdges_2 2 rfl ?_
  refine r_aload_n C dX7_clearEdges_3 0 rfl ?_
  refine gf_X7_18 C dX7_clearEdges_4 0 rfl rfl ?_
  refine r_ilen C dX7_clearEdges_7 1 rfl ?_
  refine r_eq (y := 11) rfl ?_
  refine r_icmp_ge C 37 dX7_clearEdges_8 rfl (by omega) (fun c_1 => ?_) (fun c_1 => ?_)
  · skip
    have hi11 : i = 11 := by omega
    refine r_ext C (f' := (fun k => anI (f k) (G k))) (ws' := [(h0, oB 6 [vi w, vi h, .ref h0r, .ref h0x, .ref h0y, vi n, vi m, vi c]), (h0r, aI g 11 (fun k => anI (f k) (G k))), (q1, aI g 11 G)]) 1 rfl (fun k h0 h1 => by rw [hF, hi11]; exact cpI_in _ _ h0 h1) rfl ?_
    exact e_v C () dX7_clearEdges_37 (trivial) rfl
  · skip
    refine r_iload_n C dX7_clearEdges_11 2 rfl ?_
    refine r_aload_n C dX7_clearEdges_12 1 rfl ?_
    refine r_ilen C dX7_clearEdges_13 2 rfl ?_
    refine r_eq (y := 11) rfl ?_
    refine r_icmp_ge C 37 dX7_clearEdges_14 rfl (by omega) (fun c_2 => ?_) (fun c_2 => ?_)
    · skip
      have hi11 : i = 11 := by omega
      refine r_ext C (f' := (fun k => anI (f k) (G k))) (ws' := [(h0, oB 6 [vi w, vi h, .ref h0r, .ref h0x, .ref h0y, vi n, vi m, vi c]), (h0r, aI g 11 (fun k => anI (f k) (G k))), (q1, aI g 11 G)]) 1 rfl (fun k h0 h1 => by rw [hF, hi11]; exact cpI_in _ _ h0 h1) rfl ?_
      exact e_v C () dX7_clearEdges_37 (trivial) rfl
    · skip
      refine r_aload_n C dX7_clearEdges_17 0 rfl ?_
      refine gf_X7_18 C dX7_clearEdges_18 0 rfl rfl ?_
      refine r_iload_n C dX7_clearEdges_21 2 rfl ?_
      refine r_dup2 C dX7_clearEdges_22 rfl rfl ?_
      have hfi := hf i (by omega) (by omega)
      have hGi := hG i (by omega) (by omega)
      have hFi : F i = f i := by rw [hF]; exact cpI_out _ _ (Int.le_refl _)
      refine r_iald C dX7_clearEdges_23 1 rfl rfl (by omega) ?_
      refine r_aload_n C dX7_clearEdges_24 1 rfl ?_
      refine r_iload_n C dX7_clearEdges_25 2 rfl ?_
      refine r_iald C dX7_clearEdges_26 2 rfl rfl (by omega) ?_
      have b_26 := hG i (by omega) (by omega)
      refine r_iconst C dX7_clearEdges_27 ?_
      refine r_ixor C (z := (-(G i) - 1)) dX7_clearEdges_28 z_not ?_
      refine r_iand C (z := (anI (f i) (G i))) dX7_clearEdges_29 (by rw [hFi]; exact z_andn (by omega) (by omega)) ?_
      refine r_iast C (ws' := [(h0, oB 6 [vi w, vi h, .ref h0r, .ref h0x, .ref h0y, vi n, vi m, vi c]), (h0r, aI g 11 (zU F i (anI (f i) (G i)))), (q1, aI g 11 G)]) dX7_clearEdges_30 1 rfl rfl (by omega) rfl ?_
      refine r_iinc C (lv' := [(2, vi (i + 1)), (0, .ref h0), (1, .ref q1)]) dX7_clearEdges_31 2 rfl rfl rfl ?_
      refine r_goto C 2 dX7_clearEdges_34 rfl ?_
      refine r_lv (lv' := [(0, .ref h0), (1, .ref q1), (2, vi (i + 1))]) [1, 2, 0] rfl ?_
      exact ih_2 (i + 1, zU F i (anI (f i) (G i))) (show (0 ≤ (i + 1) ∧ (i + 1) ≤ 11) ∧ ((zU F i (anI (f i) (G i))) = cpI (fun k => anI (f k) (G k)) f (i + 1)) from ⟨(by omega), (by rw [← cpI_s _ _ hi.1, ← hF])⟩) (show 11 - (i + 1) < 11 - i from by omega)
set_option maxHeartbeats 1000000 in
set_option maxRecDepth 100000 in
theorem c_X7_edges (l : Launch) (g : Gx) (h0 : Nat) (h0r : Nat) (h0x : Nat) (h0y : Nat) (w : Int) (h : Int) (n : Int) (m : Int) (c : Int) (f : Int → Int) (hf : ∀ k : Int, 0 ≤ k → k < 11 → 0 ≤ f k ∧ f k ≤ 2047) (sz : Nat) : Met l yX7_edges (.code yX7_edges cX7_edges 3 (some .int) :: wsL_law) { frames := 1, cells := 0, slots := 0, locals := 20 } (PR g [.ref h0] [(h0, oB 6 [vi w, vi h, .ref h0r, .ref h0x, .ref h0y, vi n, vi m, vi c]), (h0r, aI g 11 f)] sz) (PI (S := Unit) g (fun r u_ => r = sI (fun k => popI (f k)) 11) (fun u_ => [(h0, oB 6 [vi w, vi h, .ref h0r, .ref h0x, .ref h0y, vi n, vi m, vi c]), (h0r, aI g 11 f)]) [(h0, oB 6 [vi w, vi h, .ref h0r, .ref h0x, .ref h0y, vi n, vi m, vi c]), (h0r, aI g 11 f)] sz) 0 0 (va_A [(h0, oB 6 [vi w, vi h, .ref h0r, .ref h0x, .ref h0y, vi n, vi m, vi c]), (h0r, aI g 11 f)] sz) := by
  refine meet (own := RX7) rfl (plainFor_of_name (by decide +kernel)) rfl (fun p_ e_ s_ m_ args_ below_ meth_ c_ C hnm => ?_)
  refine r_at (ws' := [(h0, oB 6 [vi w, vi h, .ref h0r, .ref h0x, .ref h0y, vi n, vi m, vi c]), (h0r, aI g 11 f)]) (lv' := [(0, .ref h0)]) rfl rfl ?_
  refine r_iconst C dX7_edges_0 ?_
  refine r_istore_n C (lv' := [(1, vi 0), (0, .ref h0)]) dX7_edges_1 rfl rfl ?_
  refine r_iconst C dX7_edges_2 ?_
  refine r_istore_n C (lv' := [(2, vi 0), (1, vi 0), (0, .ref h0)]) dX7_edges_3 rfl rfl ?_
  refine r_lv (lv' := [(0, .ref h0), (1, vi 0), (2, vi 0)]) [2, 1, 0] rfl ?_
  refine r_loop (σ := Int × Int) (fun z_ => (0 ≤ z_.1 ∧ z_.1 ≤ 11) ∧ (z_.2 = sI (fun k => popI (f k)) z_.1)) (fun z_ => 11 - z_.1) (fun z_ => [(h0, oB 6 [vi w, vi h, .ref h0r, .ref h0x, .ref h0y, vi n, vi m, vi c]), (h0r, aI g 11 f)]) (fun z_ => [(0, .ref h0), (1, vi z_.2), (2, vi z_.1)]) (fun z_ hz => ?_) (fun z_ hz ih_4 => ?_) (((0, 0) : Int × Int)) ?_
  · obtain ⟨i, a⟩ := z_
    obtain ⟨hi, ha⟩ := hz
    have hi : 0 ≤ i ∧ i ≤ 11 := hi
    have ha : a = sI (fun k => popI (f k)) i := ha
    show (0 : Int) ≤ 11 - i
    omega
  rotate_left
  · show (0 ≤ 0 ∧ 0 ≤ 11) ∧ (0 = sI (fun k => popI (f k)) 0)
    exact ⟨(by decide), (rfl)⟩
  obtain ⟨i, a⟩ := z_
  obtain ⟨hi, ha⟩ := hz
  have hi : 0 ≤ i ∧ i ≤ 11 := hi
  have ha : a = sI (fun k => popI (f k)) i := ha
  refine r_at (ws' := [(h0, oB 6 [vi w, vi h, .ref h0r, .ref h0x, .ref h0y, vi n, vi m, vi c]), (h0r, aI g 11 f)]) (lv' := [(0, .ref h0), (1, vi a), (2, vi i)]) rfl rfl ?_
  refine r_iload_n C dX7_edges_4 2 rfl ?_
  refine r_aload_n C dX7_edges_5 0 rfl ?_
  refine gf_X7_18 C dX7_edges_6 0 rfl rfl ?_
  refine r_ilen C dX7_edges_9 1 rfl ?_
  refine r_eq (y := 11) rfl ?_
  refine r_icmp_ge C 31 dX7_edges_10 rfl (by omega) (fun c_1 => ?_) (fun c_1 => ?_)
  · skip
    refine r_iload_n C dX7_edges_31 1 rfl ?_
    exact e_i C () dX7_edges_32 (show a = sI (fun k => popI (f k)) 11 from by rw [ha, show i = 11 by omega]) rfl
  · skip
    refine r_iload_n C dX7_edges_13 1 rfl ?_
    refine r_aload_n C dX7_edges_14 0 rfl ?_
    refine gf_X7_18 C dX7_edges_15 0 rfl rfl ?_
    refine r_iload_n C dX7_edges_18 2 rfl ?_
    refine r_iald C dX7_edges_19 1 rfl rfl (by omega) ?_
    have b_19 := hf i (by omega) (by omega)
    refine k_Si C ks_X7_41 (fun sz => c_J6_bitCount_0f7a4 l g (f i) (by omega) sz) dX7_edges_20 rfl rfl rfl ⟨rfl, rfl⟩ [] rfl rfl (fun _ => rfl) (ws' := fun u_ => [(h0, oB 6 [vi w, vi h, .ref h0r, .ref h0x, .ref h0y, vi n, vi m, vi c]), (h0r, aI g 11 f)]) (fun _ => rfl) (fun r_20 u_ p_20 => ?_)
    have p_20 : r_20 = popI (f i) := p_20
    refine r_iadd C dX7_edges_23 ?_
    refine r_istore_n C (lv' := [(1, vi (a + r_20)), (0, .ref h0), (2, vi i)]) dX7_edges_24 rfl rfl ?_
    refine r_iinc C (lv' := [(2, vi (i + 1)), (1, vi (a + r_20)), (0, .ref h0)]) dX7_edges_25 2 rfl rfl rfl ?_
    refine r_goto C 4 dX7_edges_28 rfl ?_
    refine r_lv (lv' := [(0, .ref h0), (1, vi (a + r_20)), (2, vi (i + 1))]) [2, 1, 0] rfl ?_
    exact ih_4 (i + 1, a + r_20) (show (0 ≤ (i + 1) ∧ (i + 1) ≤ 11) ∧ ((a + r_20) = sI (fun k => popI (f k)) (i + 1)) from ⟨(by omega), (by rw [sI_s _ hi.1, ha, p_20])⟩) (show 11 - (i + 1) < 11 - i from by omega)
set_option maxHeartbeats 1000000 in
set_option maxRecDepth 100000 in
theorem c_X7_hasDot (l : Launch) (g : Gx) (h0 : Nat) (h0r : Nat) (h0x : Nat) (h0y : Nat) (w : Int) (h : Int) (n : Int) (m : Int) (c : Int) (X : Int → Int) (Y : Int → Int) (x : Int) (y : Int) (hn : 0 ≤ n ∧ n ≤ 10) (hX : ∀ k : Int, 0 ≤ k → k < 10 → -5 ≤ X k ∧ X k ≤ 5) (hY : ∀ k : Int, 0 ≤ k → k < 10 → -5 ≤ Y k ∧ Y k ≤ 5) (hx : -2147483648 ≤ x ∧ x ≤ 2147483647) (hy : -2147483648 ≤ y ∧ y ≤ 2147483647) (sz : Nat) : Met l yX7_hasDot (.code yX7_hasDot cX7_hasDot 4 (some .boolean) :: wsL_law) { frames := 0, cells := 0, slots := 0, locals := 0 } (PR g [.ref h0, vi x, vi y] [(h0, oB 6 [vi w, vi h, .ref h0r, .ref h0x, .ref h0y, vi n, vi m, vi c]), (h0x, aI g 10 X), (h0y, aI g 10 Y)] sz) (PI (S := Unit) g (fun r u_ => (r = 1 ∧ ∃ d : Int, 0 ≤ d ∧ d < n ∧ X d = x ∧ Y d = y) ∨ (r = 0 ∧ ∀ d : Int, 0 ≤ d → d < n → ¬ (X d = x ∧ Y d = y))) (fun u_ => [(h0, oB 6 [vi w, vi h, .ref h0r, .ref h0x, .ref h0y, vi n, vi m, vi c]), (h0x, aI g 10 X), (h0y, aI g 10 Y)]) [(h0, oB 6 [vi w, vi h, .ref h0r, .ref h0x, .ref h0y, vi n, vi m, vi c]), (h0x, aI g 10 X), (h0y, aI g 10 Y)] sz) 0 0 (va_A [(h0, oB 6 [vi w, vi h, .ref h0r, .ref h0x, .ref h0y, vi n, vi m, vi c]), (h0x, aI g 10 X), (h0y, aI g 10 Y)] sz) := by
  refine meet (own := RX7) rfl (plainFor_of_name (by decide +kernel)) rfl (fun p_ e_ s_ m_ args_ below_ meth_ c_ C hnm => ?_)
  refine r_at (ws' := [(h0, oB 6 [vi w, vi h, .ref h0r, .ref h0x, .ref h0y, vi n, vi m, vi c]), (h0x, aI g 10 X), (h0y, aI g 10 Y)]) (lv' := [(0, .ref h0), (1, vi x), (2, vi y)]) rfl rfl ?_
  refine r_iconst C dX7_hasDot_0 ?_
  refine r_istore_n C (lv' := [(3, vi 0), (0, .ref h0), (1, vi x), (2, vi y)]) dX7_hasDot_1 rfl rfl ?_
  refine r_lv (lv' := [(0, .ref h0), (1, vi x), (2, vi y), (3, vi 0)]) [1, 2, 3, 0] rfl ?_
  refine r_loop (σ := Int) (fun z_ => (0 ≤ z_ ∧ z_ ≤ n) ∧ (∀ d : Int, 0 ≤ d → d < z_ → ¬ (X d = x ∧ Y d = y))) (fun z_ => n - z_) (fun z_ => [(h0, oB 6 [vi w, vi h, .ref h0r, .ref h0x, .ref h0y, vi n, vi m, vi c]), (h0x, aI g 10 X), (h0y, aI g 10 Y)]) (fun z_ => [(0, .ref h0), (1, vi x), (2, vi y), (3, vi z_)]) (fun z_ hz => ?_) (fun z_ hz ih_2 => ?_) ((0 : Int)) ?_
  · obtain ⟨i, rfl⟩ : ∃ w_, w_ = z_ := ⟨_, rfl⟩
    obtain ⟨hi, ha⟩ := hz
    have hi : 0 ≤ i ∧ i ≤ n := hi
    have ha : ∀ d : Int, 0 ≤ d → d < i → ¬ (X d = x ∧ Y d = y) := ha
    show (0 : Int) ≤ n - i
    omega
  rotate_left
  · show (0 ≤ 0 ∧ 0 ≤ n) ∧ (∀ d : Int, 0 ≤ d → d < 0 → ¬ (X d = x ∧ Y d = y))
    exact ⟨(by omega), (fun d h0 h1 => by omega)⟩
  obtain ⟨i, rfl⟩ : ∃ w_, w_ = z_ := ⟨_, rfl⟩
  obtain ⟨hi, ha⟩ := hz
  have hi : 0 ≤ i ∧ i ≤ n := hi
  have ha : ∀ d : Int, 0 ≤ d → d < i → ¬ (X d = x ∧ Y d = y) := ha
  refine r_at (ws' := [(h0, oB 6 [vi w, vi h, .ref h0r, .ref h0x, .ref h0y, vi n, vi m, vi c]), (h0x, aI g 10 X), (h0y, aI g 10 Y)]) (lv' := [(0, .ref h0), (1, vi x), (2, vi y), (3, vi i)]) rfl rfl ?_
  refine r_iload_n C dX7_hasDot_2 3 rfl ?_
  refine r_aload_n C dX7_hasDot_3 0 rfl ?_
  refine gf_X7_28 C dX7_hasDot_4 0 rfl rfl ?_
  refine r_icmp_ge C 38 dX7_hasDot_7 rfl (by omega) (fun c_1 => ?_) (fun c_1 => ?_)
  · skip
    refine r_iconst C dX7_hasDot_38 ?_
    exact e_z C () dX7_hasDot_39 (by omega) (show (0 = 1 ∧ ∃ d : Int, 0 ≤ d ∧ d < n ∧ X d = x ∧ Y d = y) ∨ (0 = 0 ∧ ∀ d : Int, 0 ≤ d → d < n → ¬ (X d = x ∧ Y d = y)) from Or.inr ⟨rfl, fun d h0 h1 => ha d h0 (by omega)⟩) rfl
  · skip
    refine r_aload_n C dX7_hasDot_10 0 rfl ?_
    refine gf_X7_22 C dX7_hasDot_11 0 rfl rfl ?_
    refine r_iload_n C dX7_hasDot_14 3 rfl ?_
    refine r_iald C dX7_hasDot_15 1 rfl rfl (by omega) ?_
    have b_15 := hX i (by omega) (by omega)
    refine r_iload_n C dX7_hasDot_16 1 rfl ?_
    refine r_icmp_ne C 32 dX7_hasDot_17 rfl (by omega) (fun c_2 => ?_) (fun c_2 => ?_)
    · skip
      refine r_iinc C (lv' := [(3, vi (i + 1)), (0, .ref h0), (1, vi x), (2, vi y)]) dX7_hasDot_32 3 rfl rfl rfl ?_
      refine r_goto C 2 dX7_hasDot_35 rfl ?_
      refine r_lv (lv' := [(0, .ref h0), (1, vi x), (2, vi y), (3, vi (i + 1))]) [1, 2, 3, 0] rfl ?_
      exact ih_2 (i + 1) (show (0 ≤ (i + 1) ∧ (i + 1) ≤ n) ∧ (∀ d : Int, 0 ≤ d → d < (i + 1) → ¬ (X d = x ∧ Y d = y)) from ⟨(by omega), (fun d h0 h1 => by
      rcases Int.lt_or_le d i with q | q
      · exact ha d h0 q
      · have : d = i := by omega
        subst this
        omega)⟩) (show n - (i + 1) < n - i from by omega)
    · skip
      refine r_aload_n C dX7_hasDot_20 0 rfl ?_
      refine gf_X7_25 C dX7_hasDot_21 0 rfl rfl ?_
      refine r_iload_n C dX7_hasDot_24 3 rfl ?_
      refine r_iald C dX7_hasDot_25 2 rfl rfl (by omega) ?_
      have b_25 := hY i (by omega) (by omega)
      refine r_iload_n C dX7_hasDot_26 2 rfl ?_
      refine r_icmp_ne C 32 dX7_hasDot_27 rfl (by omega) (fun c_3 => ?_) (fun c_3 => ?_)
      · skip
        refine r_iinc C (lv' := [(3, vi (i + 1)), (0, .ref h0), (1, vi x), (2, vi y)]) dX7_hasDot_32 3 rfl rfl rfl ?_
        refine r_goto C 2 dX7_hasDot_35 rfl ?_
        refine r_lv (lv' := [(0, .ref h0), (1, vi x), (2, vi y), (3, vi (i + 1))]) [1, 2, 3, 0] rfl ?_
        exact ih_2 (i + 1) (show (0 ≤ (i + 1) ∧ (i + 1) ≤ n) ∧ (∀ d : Int, 0 ≤ d → d < (i + 1) → ¬ (X d = x ∧ Y d = y)) from ⟨(by omega), (fun d h0 h1 => by
      rcases Int.lt_or_le d i with q | q
      · exact ha d h0 q
      · have : d = i := by omega
        subst this
        omega)⟩) (show n - (i + 1) < n - i from by omega)
      · skip
        refine r_iconst C dX7_hasDot_30 ?_
        exact e_z C () dX7_hasDot_31 (by omega) (show (1 = 1 ∧ ∃ d : Int, 0 ≤ d ∧ d < n ∧ X d = x ∧ Y d = y) ∨ (1 = 0 ∧ ∀ d : Int, 0 ≤ d → d < n → ¬ (X d = x ∧ Y d = y)) from Or.inl ⟨rfl, i, by omega, by omega, by omega, by omega⟩) rfl
set_option maxHeartbeats 1000000 in
set_option maxRecDepth 100000 in
theorem c_X7_addDot (l : Launch) (g : Gx) (h0 : Nat) (h0r : Nat) (h0x : Nat) (h0y : Nat) (w : Int) (h : Int) (n : Int) (m : Int) (c : Int) (X : Int → Int) (Y : Int → Int) (x : Int) (y : Int) (hn : 0 ≤ n ∧ n < 10) (sz : Nat) : Met l yX7_addDot (.code yX7_addDot cX7_addDot 3 none :: wsL_law) { frames := 0, cells := 0, slots := 0, locals := 0 } (PR g [.ref h0, vi x, vi y] [(h0, oB 6 [vi w, vi h, .ref h0r, .ref h0x, .ref h0y, vi n, vi m, vi c]), (h0x, aI g 10 X), (h0y, aI g 10 Y)] sz) (PV (S := Unit) g (fun u_ => True) (fun u_ => [(h0, oB 6 [vi w, vi h, .ref h0r, .ref h0x, .ref h0y, vi (n + 1), vi m, vi c]), (h0x, aI g 10 (zU X n x)), (h0y, aI g 10 (zU Y n y))]) [(h0, oB 6 [vi w, vi h, .ref h0r, .ref h0x, .ref h0y, vi n, vi m, vi c]), (h0x, aI g 10 X), (h0y, aI g 10 Y)] sz) 0 0 (va_A [(h0, oB 6 [vi w, vi h, .ref h0r, .ref h0x, .ref h0y, vi n, vi m, vi c]), (h0x, aI g 10 X), (h0y, aI g 10 Y)] sz) := by
  refine meet (own := RX7) rfl (plainFor_of_name (by decide +kernel)) rfl (fun p_ e_ s_ m_ args_ below_ meth_ c_ C hnm => ?_)
  refine r_at (ws' := [(h0, oB 6 [vi w, vi h, .ref h0r, .ref h0x, .ref h0y, vi n, vi m, vi c]), (h0x, aI g 10 X), (h0y, aI g 10 Y)]) (lv' := [(0, .ref h0), (1, vi x), (2, vi y)]) rfl rfl ?_
  refine r_aload_n C dX7_addDot_0 0 rfl ?_
  refine gf_X7_28 C dX7_addDot_1 0 rfl rfl ?_
  refine r_bipush C dX7_addDot_4 rfl ?_
  refine r_icmp_ge C 39 dX7_addDot_6 rfl (by omega) (fun c_1 => ?_) (fun c_1 => ?_)
  · skip
    exact absurd hn (by omega)
  · skip
    refine r_aload_n C dX7_addDot_9 0 rfl ?_
    refine gf_X7_22 C dX7_addDot_10 0 rfl rfl ?_
    refine r_aload_n C dX7_addDot_13 0 rfl ?_
    refine gf_X7_28 C dX7_addDot_14 0 rfl rfl ?_
    refine r_iload_n C dX7_addDot_17 1 rfl ?_
    refine r_iast C (ws' := [(h0, oB 6 [vi w, vi h, .ref h0r, .ref h0x, .ref h0y, vi n, vi m, vi c]), (h0x, aI g 10 (zU X n x)), (h0y, aI g 10 Y)]) dX7_addDot_18 1 rfl rfl (by omega) rfl ?_
    refine r_aload_n C dX7_addDot_19 0 rfl ?_
    refine gf_X7_25 C dX7_addDot_20 0 rfl rfl ?_
    refine r_aload_n C dX7_addDot_23 0 rfl ?_
    refine gf_X7_28 C dX7_addDot_24 0 rfl rfl ?_
    refine r_iload_n C dX7_addDot_27 2 rfl ?_
    refine r_iast C (ws' := [(h0, oB 6 [vi w, vi h, .ref h0r, .ref h0x, .ref h0y, vi n, vi m, vi c]), (h0x, aI g 10 (zU X n x)), (h0y, aI g 10 (zU Y n y))]) dX7_addDot_28 2 rfl rfl (by omega) rfl ?_
    refine r_aload_n C dX7_addDot_29 0 rfl ?_
    refine r_dup C dX7_addDot_30 rfl ?_
    refine gf_X7_28 C dX7_addDot_31 0 rfl rfl ?_
    refine r_iconst C dX7_addDot_34 ?_
    refine r_iadd C dX7_addDot_35 ?_
    refine pf_X7_28 C (ws' := [(h0, oB 6 [vi w, vi h, .ref h0r, .ref h0x, .ref h0y, vi (n + 1), vi m, vi c]), (h0x, aI g 10 (zU X n x)), (h0y, aI g 10 (zU Y n y))]) dX7_addDot_36 0 rfl (Nat.le_of_ble_eq_true rfl) rfl ?_
    exact e_v C () dX7_addDot_39 (trivial) rfl
set_option maxHeartbeats 1000000 in
set_option maxRecDepth 100000 in
theorem c_X7_removeDot (l : Launch) (g : Gx) (h0 : Nat) (h0r : Nat) (h0x : Nat) (h0y : Nat) (w : Int) (h : Int) (n : Int) (m : Int) (c : Int) (X : Int → Int) (Y : Int → Int) (d : Int) (hn : 1 ≤ n ∧ n ≤ 10) (hd : 0 ≤ d ∧ d < n) (sz : Nat) : Met l yX7_removeDot (.code yX7_removeDot cX7_removeDot 3 none :: wsL_law) { frames := 0, cells := 0, slots := 0, locals := 0 } (PR g [.ref h0, vi d] [(h0, oB 6 [vi w, vi h, .ref h0r, .ref h0x, .ref h0y, vi n, vi m, vi c]), (h0x, aI g 10 X), (h0y, aI g 10 Y)] sz) (PV (S := Unit) g (fun u_ => True) (fun u_ => [(h0, oB 6 [vi w, vi h, .ref h0r, .ref h0x, .ref h0y, vi (n - 1), vi m, vi c]), (h0x, aI g 10 (rmI X d n)), (h0y, aI g 10 (rmI Y d n))]) [(h0, oB 6 [vi w, vi h, .ref h0r, .ref h0x, .ref h0y, vi n, vi m, vi c]), (h0x, aI g 10 X), (h0y, aI g 10 Y)] sz) 0 0 (va_A [(h0, oB 6 [vi w, vi h, .ref h0r, .ref h0x, .ref h0y, vi n, vi m, vi c]), (h0x, aI g 10 X), (h0y, aI g 10 Y)] sz) := by
  refine meet (own := RX7) rfl (plainFor_of_name (by decide +kernel)) rfl (fun p_ e_ s_ m_ args_ below_ meth_ c_ C hnm => ?_)
  refine r_at (ws' := [(h0, oB 6 [vi w, vi h, .ref h0r, .ref h0x, .ref h0y, vi n, vi m, vi c]), (h0x, aI g 10 X), (h0y, aI g 10 Y)]) (lv' := [(0, .ref h0), (1, vi d)]) rfl rfl ?_
  refine r_iload_n C dX7_removeDot_0 1 rfl ?_
  refine r_if_lt C 12 dX7_removeDot_1 rfl (by omega) (fun c_1 => ?_) (fun c_1 => ?_)
  · skip
    exact absurd hd (by omega)
  · skip
    refine r_iload_n C dX7_removeDot_4 1 rfl ?_
    refine r_aload_n C dX7_removeDot_5 0 rfl ?_
    refine gf_X7_28 C dX7_removeDot_6 0 rfl rfl ?_
    refine r_icmp_lt C 13 dX7_removeDot_9 rfl (by omega) (fun c_2 => ?_) (fun c_2 => ?_)
    · skip
      refine r_iload_n C dX7_removeDot_13 1 rfl ?_
      refine r_iconst C dX7_removeDot_14 ?_
      refine r_iadd C dX7_removeDot_15 ?_
      refine r_istore_n C (lv' := [(2, vi (d + 1)), (0, .ref h0), (1, vi d)]) dX7_removeDot_16 rfl rfl ?_
      refine r_lv (lv' := [(0, .ref h0), (1, vi d), (2, vi (d + 1))]) [1, 2, 0] rfl ?_
      refine r_loop (σ := Int × (Int → Int) × (Int → Int)) (fun z_ => (d + 1 ≤ z_.1 ∧ z_.1 ≤ n) ∧ (z_.2.1 = rmI X d z_.1) ∧ (z_.2.2 = rmI Y d z_.1)) (fun z_ => n - z_.1) (fun z_ => [(h0, oB 6 [vi w, vi h, .ref h0r, .ref h0x, .ref h0y, vi n, vi m, vi c]), (h0x, aI g 10 z_.2.1), (h0y, aI g 10 z_.2.2)]) (fun z_ => [(0, .ref h0), (1, vi d), (2, vi z_.1)]) (fun z_ hz => ?_) (fun z_ hz ih_17 => ?_) (((d + 1, X, Y) : Int × (Int → Int) × (Int → Int))) ?_
      · obtain ⟨j, P, Q⟩ := z_
        obtain ⟨hj, hP, hQ⟩ := hz
        have hj : d + 1 ≤ j ∧ j ≤ n := hj
        have hP : P = rmI X d j := hP
        have hQ : Q = rmI Y d j := hQ
        show (0 : Int) ≤ n - j
        omega
      rotate_left
      · show (d + 1 ≤ (d + 1) ∧ (d + 1) ≤ n) ∧ (X = rmI X d (d + 1)) ∧ (Y = rmI Y d (d + 1))
        exact ⟨(by omega), ((rmI_0 _ _).symm), ((rmI_0 _ _).symm)⟩
      obtain ⟨j, P, Q⟩ := z_
      obtain ⟨hj, hP, hQ⟩ := hz
      have hj : d + 1 ≤ j ∧ j ≤ n := hj
      have hP : P = rmI X d j := hP
      have hQ : Q = rmI Y d j := hQ
      refine r_at (ws' := [(h0, oB 6 [vi w, vi h, .ref h0r, .ref h0x, .ref h0y, vi n, vi m, vi c]), (h0x, aI g 10 P), (h0y, aI g 10 Q)]) (lv' := [(0, .ref h0), (1, vi d), (2, vi j)]) rfl rfl ?_
      refine r_iload_n C dX7_removeDot_17 2 rfl ?_
      refine r_aload_n C dX7_removeDot_18 0 rfl ?_
      refine gf_X7_28 C dX7_removeDot_19 0 rfl rfl ?_
      refine r_icmp_ge C 59 dX7_removeDot_22 rfl (by omega) (fun c_3 => ?_) (fun c_3 => ?_)
      · skip
        have hjn : j = n := by omega
        refine r_ext C (f' := (rmI X d n)) (ws' := [(h0, oB 6 [vi w, vi h, .ref h0r, .ref h0x, .ref h0y, vi n, vi m, vi c]), (h0x, aI g 10 (rmI X d n)), (h0y, aI g 10 Q)]) 1 rfl (fun k h0 h1 => by rw [hP, hjn]) rfl ?_
        refine r_ext C (f' := (rmI Y d n)) (ws' := [(h0, oB 6 [vi w, vi h, .ref h0r, .ref h0x, .ref h0y, vi n, vi m, vi c]), (h0x, aI g 10 (rmI X d n)), (h0y, aI g 10 (rmI Y d n))]) 2 rfl (fun k h0 h1 => by rw [hQ, hjn]) rfl ?_
        refine r_aload_n C dX7_removeDot_59 0 rfl ?_
        refine r_dup C dX7_removeDot_60 rfl ?_
        refine gf_X7_28 C dX7_removeDot_61 0 rfl rfl ?_
        refine r_iconst C dX7_removeDot_64 ?_
        refine r_isub C dX7_removeDot_65 ?_
        refine pf_X7_28 C (ws' := [(h0, oB 6 [vi w, vi h, .ref h0r, .ref h0x, .ref h0y, vi (n - 1), vi m, vi c]), (h0x, aI g 10 (rmI X d n)), (h0y, aI g 10 (rmI Y d n))]) dX7_removeDot_66 0 rfl (Nat.le_of_ble_eq_true rfl) rfl ?_
        exact e_v C () dX7_removeDot_69 (trivial) rfl
      · skip
        refine r_aload_n C dX7_removeDot_25 0 rfl ?_
        refine gf_X7_22 C dX7_removeDot_26 0 rfl rfl ?_
        refine r_iload_n C dX7_removeDot_29 2 rfl ?_
        refine r_iconst C dX7_removeDot_30 ?_
        refine r_isub C dX7_removeDot_31 ?_
        refine r_aload_n C dX7_removeDot_32 0 rfl ?_
        refine gf_X7_22 C dX7_removeDot_33 0 rfl rfl ?_
        refine r_iload_n C dX7_removeDot_36 2 rfl ?_
        refine r_iald C dX7_removeDot_37 1 rfl rfl (by omega) ?_
        refine r_iast C (ws' := [(h0, oB 6 [vi w, vi h, .ref h0r, .ref h0x, .ref h0y, vi n, vi m, vi c]), (h0x, aI g 10 (zU P (j - 1) (P j))), (h0y, aI g 10 Q)]) dX7_removeDot_38 1 rfl rfl (by omega) rfl ?_
        refine r_aload_n C dX7_removeDot_39 0 rfl ?_
        refine gf_X7_25 C dX7_removeDot_40 0 rfl rfl ?_
        refine r_iload_n C dX7_removeDot_43 2 rfl ?_
        refine r_iconst C dX7_removeDot_44 ?_
        refine r_isub C dX7_removeDot_45 ?_
        refine r_aload_n C dX7_removeDot_46 0 rfl ?_
        refine gf_X7_25 C dX7_removeDot_47 0 rfl rfl ?_
        refine r_iload_n C dX7_removeDot_50 2 rfl ?_
        refine r_iald C dX7_removeDot_51 2 rfl rfl (by omega) ?_
        refine r_iast C (ws' := [(h0, oB 6 [vi w, vi h, .ref h0r, .ref h0x, .ref h0y, vi n, vi m, vi c]), (h0x, aI g 10 (zU P (j - 1) (P j))), (h0y, aI g 10 (zU Q (j - 1) (Q j)))]) dX7_removeDot_52 2 rfl rfl (by omega) rfl ?_
        refine r_iinc C (lv' := [(2, vi (j + 1)), (0, .ref h0), (1, vi d)]) dX7_removeDot_53 2 rfl rfl rfl ?_
        refine r_goto C 17 dX7_removeDot_56 rfl ?_
        refine r_lv (lv' := [(0, .ref h0), (1, vi d), (2, vi (j + 1))]) [1, 2, 0] rfl ?_
        exact ih_17 (j + 1, zU P (j - 1) (P j), zU Q (j - 1) (Q j)) (show (d + 1 ≤ (j + 1) ∧ (j + 1) ≤ n) ∧ ((zU P (j - 1) (P j)) = rmI X d (j + 1)) ∧ ((zU Q (j - 1) (Q j)) = rmI Y d (j + 1)) from ⟨(by omega), (by rw [hP]; exact rmI_s _ hj.1), (by rw [hQ]; exact rmI_s _ hj.1)⟩) (show n - (j + 1) < n - j from by omega)
    · skip
      exact absurd hd (by omega)
set_option maxHeartbeats 1000000 in
set_option maxRecDepth 100000 in
theorem c_X7_apart (l : Launch) (g : Gx) (h0 : Nat) (h0r : Nat) (h0x : Nat) (h0y : Nat) (w : Int) (h : Int) (n : Int) (m : Int) (c : Int) (x : Int) (y : Int) (hm : 0 ≤ m ∧ m ≤ 2) (hx : -1000 ≤ x ∧ x ≤ 1000) (hy : -1000 ≤ y ∧ y ≤ 1000) (sz : Nat) : Met l yX7_apart (.code yX7_apart cX7_apart 6 (some .int) :: wsL_law) { frames := 1, cells := 0, slots := 0, locals := 14 } (PR g [.ref h0, vi x, vi y] [(h0, oB 6 [vi w, vi h, .ref h0r, .ref h0x, .ref h0y, vi n, vi m, vi c])] sz) (PI (S := Unit) g (fun r u_ => r = dst m x y) (fun u_ => [(h0, oB 6 [vi w, vi h, .ref h0r, .ref h0x, .ref h0y, vi n, vi m, vi c])]) [(h0, oB 6 [vi w, vi h, .ref h0r, .ref h0x, .ref h0y, vi n, vi m, vi c])] sz) 0 0 (va_A [(h0, oB 6 [vi w, vi h, .ref h0r, .ref h0x, .ref h0y, vi n, vi m, vi c])] sz) := by
  refine meet (own := RX7) rfl (plainFor_of_name (by decide +kernel)) rfl (fun p_ e_ s_ m_ args_ below_ meth_ c_ C hnm => ?_)
  refine r_at (ws' := [(h0, oB 6 [vi w, vi h, .ref h0r, .ref h0x, .ref h0y, vi n, vi m, vi c])]) (lv' := [(0, .ref h0), (1, vi x), (2, vi y)]) rfl rfl ?_
  refine r_iload_n C dX7_apart_0 1 rfl ?_
  refine r_mabs C (in_r22 (List.mem_of_getElem? (i := 16) rfl)) dX7_apart_1 ⟨rfl, rfl, rfl, rfl⟩ (by omega) ?_
  refine r_istore_n C (lv' := [(3, vi (if 0 ≤ x then x else -x)), (0, .ref h0), (1, vi x), (2, vi y)]) dX7_apart_4 rfl rfl ?_
  refine r_iload_n C dX7_apart_5 3 rfl ?_
  refine r_mabs C (in_r22 (List.mem_of_getElem? (i := 16) rfl)) dX7_apart_6 ⟨rfl, rfl, rfl, rfl⟩ (by omega) ?_
  refine r_istore C (lv' := [(4, vi (if 0 ≤ y then y else -y)), (3, vi (if 0 ≤ x then x else -x)), (0, .ref h0), (1, vi x), (2, vi y)]) dX7_apart_9 rfl rfl ?_
  refine r_iload_n C dX7_apart_11 1 rfl ?_
  refine r_iload C dX7_apart_12 0 rfl ?_
  refine r_mmax C (in_r22 (List.mem_of_getElem? (i := 19) rfl)) dX7_apart_14 ⟨rfl, rfl, rfl, rfl⟩ (by omega) ?_
  refine r_istore C (lv' := [(5, vi (max (if 0 ≤ x then x else -x) (if 0 ≤ y then y else -y))), (4, vi (if 0 ≤ y then y else -y)), (3, vi (if 0 ≤ x then x else -x)), (0, .ref h0), (1, vi x), (2, vi y)]) dX7_apart_17 rfl rfl ?_
  refine r_aload_n C dX7_apart_19 3 rfl ?_
  refine gf_X7_31 C dX7_apart_20 0 rfl rfl ?_
  by_cases c_1 : m = 0
  · refine r_look C 48 (v := 0) dX7_apart_23 c_1 (by decide) rfl rfl rfl ?_
    refine r_iload_n C dX7_apart_48 2 rfl ?_
    refine r_iload C dX7_apart_49 1 rfl ?_
    refine r_iadd C dX7_apart_51 ?_
    exact e_i C () dX7_apart_52 (show ((if 0 ≤ x then x else -x) + (if 0 ≤ y then y else -y)) = dst m x y from by unfold dst ab; omega) rfl
  by_cases c_2 : m = 1
  · refine r_look C 53 (v := 1) dX7_apart_23 c_2 (by decide) rfl rfl rfl ?_
    refine r_iload C dX7_apart_53 0 rfl ?_
    exact e_i C () dX7_apart_55 (show (max (if 0 ≤ x then x else -x) (if 0 ≤ y then y else -y)) = dst m x y from by unfold dst ab; omega) rfl
  refine r_lookOut C 56 dX7_apart_23 (by omega) rfl (by simp [c_1, c_2]) rfl ?_
  refine r_iconst C dX7_apart_56 ?_
  refine r_iload C dX7_apart_57 0 rfl ?_
  refine r_imul C dX7_apart_59 ?_
  refine r_iload_n C dX7_apart_60 2 rfl ?_
  refine r_iload C dX7_apart_61 1 rfl ?_
  refine r_mmin C (in_r22 (List.mem_of_getElem? (i := 22) rfl)) dX7_apart_63 ⟨rfl, rfl, rfl, rfl⟩ (by omega) ?_
  refine r_iadd C dX7_apart_66 ?_
  exact e_i C () dX7_apart_67 (show ((3 * (max (if 0 ≤ x then x else -x) (if 0 ≤ y then y else -y))) + (min (if 0 ≤ x then x else -x) (if 0 ≤ y then y else -y))) = dst m x y from by unfold dst ab; omega) rfl
set_option maxHeartbeats 1000000 in
set_option maxRecDepth 100000 in
theorem c_X7_clear (l : Launch) (g : Gx) (h0 : Nat) (h0r : Nat) (h0x : Nat) (h0y : Nat) (w : Int) (h : Int) (n : Int) (m : Int) (c : Int) (f : Int → Int) (X : Int → Int) (Y : Int → Int) (sz : Nat) : Met l yX7_clear (.code yX7_clear cX7_clear 2 none :: wsL_law) { frames := 0, cells := 0, slots := 0, locals := 0 } (PR g [.ref h0] [(h0, oB 6 [vi w, vi h, .ref h0r, .ref h0x, .ref h0y, vi n, vi m, vi c]), (h0r, aI g 11 f), (h0x, aI g 10 X), (h0y, aI g 10 Y)] sz) (PV (S := Unit) g (fun u_ => True) (fun u_ => [(h0, oB 6 [vi 4, vi 4, .ref h0r, .ref h0x, .ref h0y, vi 0, vi 0, vi 99]), (h0r, aI g 11 (fun _ => 0)), (h0x, aI g 10 X), (h0y, aI g 10 Y)]) [(h0, oB 6 [vi w, vi h, .ref h0r, .ref h0x, .ref h0y, vi n, vi m, vi c]), (h0r, aI g 11 f), (h0x, aI g 10 X), (h0y, aI g 10 Y)] sz) 0 0 (va_A [(h0, oB 6 [vi w, vi h, .ref h0r, .ref h0x, .ref h0y, vi n, vi m, vi c]), (h0r, aI g 11 f), (h0x, aI g 10 X), (h0y, aI g 10 Y)] sz) := by
  refine meet (own := RX7) rfl (plainFor_of_name (by decide +kernel)) rfl (fun p_ e_ s_ m_ args_ below_ meth_ c_ C hnm => ?_)
  refine r_at (ws' := [(h0, oB 6 [vi w, vi h, .ref h0r, .ref h0x, .ref h0y, vi n, vi m, vi c]), (h0r, aI g 11 f), (h0x, aI g 10 X), (h0y, aI g 10 Y)]) (lv' := [(0, .ref h0)]) rfl rfl ?_
  refine r_aload_n C dX7_clear_0 0 rfl ?_
  refine r_iconst C dX7_clear_1 ?_
  refine pf_X7_9 C (ws' := [(h0, oB 6 [vi 4, vi h, .ref h0r, .ref h0x, .ref h0y, vi n, vi m, vi c]), (h0r, aI g 11 f), (h0x, aI g 10 X), (h0y, aI g 10 Y)]) dX7_clear_2 0 rfl (Nat.le_of_ble_eq_true rfl) rfl ?_
  refine r_aload_n C dX7_clear_5 0 rfl ?_
  refine r_iconst C dX7_clear_6 ?_
  refine pf_X7_15 C (ws' := [(h0, oB 6 [vi 4, vi 4, .ref h0r, .ref h0x, .ref h0y, vi n, vi m, vi c]), (h0r, aI g 11 f), (h0x, aI g 10 X), (h0y, aI g 10 Y)]) dX7_clear_7 0 rfl (Nat.le_of_ble_eq_true rfl) rfl ?_
  refine r_iconst C dX7_clear_10 ?_
  refine r_istore_n C (lv' := [(1, vi 0), (0, .ref h0)]) dX7_clear_11 rfl rfl ?_
  refine r_lv (lv' := [(0, .ref h0), (1, vi 0)]) [1, 0] rfl ?_
  refine r_loop (σ := Int × (Int → Int)) (fun z_ => (0 ≤ z_.1 ∧ z_.1 ≤ 11) ∧ (z_.2 = cpI (fun _ => 0) f z_.1)) (fun z_ => 11 - z_.1) (fun z_ => [(h0, oB 6 [vi 4, vi 4, .ref h0r, .ref h0x, .ref h0y, vi n, vi m, vi c]), (h0r, aI g 11 z_.2), (h0x, aI g 10 X), (h0y, aI g 10 Y)]) (fun z_ => [(0, .ref h0), (1, vi z_.1)]) (fun z_ hz => ?_) (fun z_ hz ih_12 => ?_) (((0, f) : Int × (Int → Int))) ?_
  · obtain ⟨i, P⟩ := z_
    obtain ⟨hi, hP⟩ := hz
    have hi : 0 ≤ i ∧ i ≤ 11 := hi
    have hP : P = cpI (fun _ => 0) f i := hP
    show (0 : Int) ≤ 11 - i
    omega
  rotate_left
  · show (0 ≤ 0 ∧ 0 ≤ 11) ∧ (f = cpI (fun _ => 0) f 0)
    exact ⟨(by decide), ((cpI_0 _ _).symm)⟩
  obtain ⟨i, P⟩ := z_
  obtain ⟨hi, hP⟩ := hz
  have hi : 0 ≤ i ∧ i ≤ 11 := hi
  have hP : P = cpI (fun _ => 0) f i := hP
  refine r_at (ws' := [(h0, oB 6 [vi 4, vi 4, .ref h0r, .ref h0x, .ref h0y, vi n, vi m, vi c]), (h0r, aI g 11 P), (h0x, aI g 10 X), (h0y, aI g 10 Y)]) (lv' := [(0, .ref h0), (1, vi i)]) rfl rfl ?_
  refine r_iload_n C dX7_clear_12 1 rfl ?_
  refine r_aload_n C dX7_clear_13 0 rfl ?_
  refine gf_X7_18 C dX7_clear_14 0 rfl rfl ?_
  refine r_ilen C dX7_clear_17 1 rfl ?_
  refine r_eq (y := 11) rfl ?_
  refine r_icmp_ge C 34 dX7_clear_18 rfl (by omega) (fun c_1 => ?_) (fun c_1 => ?_)
  · skip
    have hi11 : i = 11 := by omega
    refine r_ext C (f' := (fun _ => 0)) (ws' := [(h0, oB 6 [vi 4, vi 4, .ref h0r, .ref h0x, .ref h0y, vi n, vi m, vi c]), (h0r, aI g 11 (fun _ => 0)), (h0x, aI g 10 X), (h0y, aI g 10 Y)]) 1 rfl (fun k h0 h1 => by rw [hP, hi11]; exact cpI_in _ _ h0 h1) rfl ?_
    refine r_aload_n C dX7_clear_34 0 rfl ?_
    refine r_iconst C dX7_clear_35 ?_
    refine pf_X7_28 C (ws' := [(h0, oB 6 [vi 4, vi 4, .ref h0r, .ref h0x, .ref h0y, vi 0, vi m, vi c]), (h0r, aI g 11 (fun _ => 0)), (h0x, aI g 10 X), (h0y, aI g 10 Y)]) dX7_clear_36 0 rfl (Nat.le_of_ble_eq_true rfl) rfl ?_
    refine r_aload_n C dX7_clear_39 0 rfl ?_
    refine r_iconst C dX7_clear_40 ?_
    refine pf_X7_31 C (ws' := [(h0, oB 6 [vi 4, vi 4, .ref h0r, .ref h0x, .ref h0y, vi 0, vi 0, vi c]), (h0r, aI g 11 (fun _ => 0)), (h0x, aI g 10 X), (h0y, aI g 10 Y)]) dX7_clear_41 0 rfl (Nat.le_of_ble_eq_true rfl) rfl ?_
    refine r_aload_n C dX7_clear_44 0 rfl ?_
    refine r_bipush C dX7_clear_45 rfl ?_
    refine pf_X7_34 C (ws' := [(h0, oB 6 [vi 4, vi 4, .ref h0r, .ref h0x, .ref h0y, vi 0, vi 0, vi 99]), (h0r, aI g 11 (fun _ => 0)), (h0x, aI g 10 X), (h0y, aI g 10 Y)]) dX7_clear_47 0 rfl (Nat.le_of_ble_eq_true rfl) rfl ?_
    exact e_v C () dX7_clear_50 (trivial) rfl
  · skip
    refine r_aload_n C dX7_clear_21 0 rfl ?_
    refine gf_X7_18 C dX7_clear_22 0 rfl rfl ?_
    refine r_iload_n C dX7_clear_25 1 rfl ?_
    refine r_iconst C dX7_clear_26 ?_
    refine r_iast C (ws' := [(h0, oB 6 [vi 4, vi 4, .ref h0r, .ref h0x, .ref h0y, vi n, vi m, vi c]), (h0r, aI g 11 (zU P i 0)), (h0x, aI g 10 X), (h0y, aI g 10 Y)]) dX7_clear_27 1 rfl rfl (by omega) rfl ?_
    refine r_iinc C (lv' := [(1, vi (i + 1)), (0, .ref h0)]) dX7_clear_28 1 rfl rfl rfl ?_
    refine r_goto C 12 dX7_clear_31 rfl ?_
    refine r_lv (lv' := [(0, .ref h0), (1, vi (i + 1))]) [1, 0] rfl ?_
    exact ih_12 (i + 1, zU P i 0) (show (0 ≤ (i + 1) ∧ (i + 1) ≤ 11) ∧ ((zU P i 0) = cpI (fun _ => 0) f (i + 1)) from ⟨(by omega), (by rw [hP]; exact cpI_s (fun _ => 0) _ hi.1)⟩) (show 11 - (i + 1) < 11 - i from by omega)
set_option maxHeartbeats 1000000 in
set_option maxRecDepth 100000 in
theorem c_X7_copyFrom (l : Launch) (g : Gx) (h0 : Nat) (h0r : Nat) (h0x : Nat) (h0y : Nat) (w : Int) (h : Int) (n : Int) (m : Int) (c : Int) (f : Int → Int) (X : Int → Int) (Y : Int → Int) (h1 : Nat) (h1r : Nat) (h1x : Nat) (h1y : Nat) (w1 : Int) (h1h : Int) (n1 : Int) (m1 : Int) (c1 : Int) (f1 : Int → Int) (X1 : Int → Int) (Y1 : Int → Int) (sz : Nat) : Met l yX7_copyFrom (.code yX7_copyFrom cX7_copyFrom 3 none :: wsL_law) { frames := 0, cells := 0, slots := 0, locals := 0 } (PR g [.ref h0, .ref h1] [(h0, oB 6 [vi w, vi h, .ref h0r, .ref h0x, .ref h0y, vi n, vi m, vi c]), (h0r, aI g 11 f), (h0x, aI g 10 X), (h0y, aI g 10 Y), (h1, oB 6 [vi w1, vi h1h, .ref h1r, .ref h1x, .ref h1y, vi n1, vi m1, vi c1]), (h1r, aI g 11 f1), (h1x, aI g 10 X1), (h1y, aI g 10 Y1)] sz) (PV (S := Unit) g (fun u_ => True) (fun u_ => [(h0, oB 6 [vi w1, vi h1h, .ref h0r, .ref h0x, .ref h0y, vi n1, vi m1, vi c1]), (h0r, aI g 11 f1), (h0x, aI g 10 X1), (h0y, aI g 10 Y1), (h1, oB 6 [vi w1, vi h1h, .ref h1r, .ref h1x, .ref h1y, vi n1, vi m1, vi c1]), (h1r, aI g 11 f1), (h1x, aI g 10 X1), (h1y, aI g 10 Y1)]) [(h0, oB 6 [vi w, vi h, .ref h0r, .ref h0x, .ref h0y, vi n, vi m, vi c]), (h0r, aI g 11 f), (h0x, aI g 10 X), (h0y, aI g 10 Y), (h1, oB 6 [vi w1, vi h1h, .ref h1r, .ref h1x, .ref h1y, vi n1, vi m1, vi c1]), (h1r, aI g 11 f1), (h1x, aI g 10 X1), (h1y, aI g 10 Y1)] sz) 0 0 (va_A [(h0, oB 6 [vi w, vi h, .ref h0r, .ref h0x, .ref h0y, vi n, vi m, vi c]), (h0r, aI g 11 f), (h0x, aI g 10 X), (h0y, aI g 10 Y), (h1, oB 6 [vi w1, vi h1h, .ref h1r, .ref h1x, .ref h1y, vi n1, vi m1, vi c1]), (h1r, aI g 11 f1), (h1x, aI g 10 X1), (h1y, aI g 10 Y1)] sz) := by
  refine meet (own := RX7) rfl (plainFor_of_name (by decide +kernel)) rfl (fun p_ e_ s_ m_ args_ below_ meth_ c_ C hnm => ?_)
  refine r_at (ws' := [(h0, oB 6 [vi w, vi h, .ref h0r, .ref h0x, .ref h0y, vi n, vi m, vi c]), (h0r, aI g 11 f), (h0x, aI g 10 X), (h0y, aI g 10 Y), (h1, oB 6 [vi w1, vi h1h, .ref h1r, .ref h1x, .ref h1y, vi n1, vi m1, vi c1]), (h1r, aI g 11 f1), (h1x, aI g 10 X1), (h1y, aI g 10 Y1)]) (lv' := [(0, .ref h0), (1, .ref h1)]) rfl rfl ?_
  refine r_aload_n C dX7_copyFrom_0 0 rfl ?_
  refine r_aload_n C dX7_copyFrom_1 1 rfl ?_
  refine gf_X7_9 C dX7_copyFrom_2 4 rfl rfl ?_
  refine pf_X7_9 C (ws' := [(h0, oB 6 [vi w1, vi h, .ref h0r, .ref h0x, .ref h0y, vi n, vi m, vi c]), (h0r, aI g 11 f), (h0x, aI g 10 X), (h0y, aI g 10 Y), (h1, oB 6 [vi w1, vi h1h, .ref h1r, .ref h1x, .ref h1y, vi n1, vi m1, vi c1]), (h1r, aI g 11 f1), (h1x, aI g 10 X1), (h1y, aI g 10 Y1)]) dX7_copyFrom_5 0 rfl (Nat.le_of_ble_eq_true rfl) rfl ?_
  refine r_aload_n C dX7_copyFrom_8 0 rfl ?_
  refine r_aload_n C dX7_copyFrom_9 1 rfl ?_
  refine gf_X7_15 C dX7_copyFrom_10 4 rfl rfl ?_
  refine pf_X7_15 C (ws' := [(h0, oB 6 [vi w1, vi h1h, .ref h0r, .ref h0x, .ref h0y, vi n, vi m, vi c]), (h0r, aI g 11 f), (h0x, aI g 10 X), (h0y, aI g 10 Y), (h1, oB 6 [vi w1, vi h1h, .ref h1r, .ref h1x, .ref h1y, vi n1, vi m1, vi c1]), (h1r, aI g 11 f1), (h1x, aI g 10 X1), (h1y, aI g 10 Y1)]) dX7_copyFrom_13 0 rfl (Nat.le_of_ble_eq_true rfl) rfl ?_
  refine r_iconst C dX7_copyFrom_16 ?_
  refine r_istore_n C (lv' := [(2, vi 0), (0, .ref h0), (1, .ref h1)]) dX7_copyFrom_17 rfl rfl ?_
  refine r_lv (lv' := [(0, .ref h0), (1, .ref h1), (2, vi 0)]) [1, 2, 0] rfl ?_
  refine r_loop (σ := Int × (Int → Int)) (fun z_ => (0 ≤ z_.1 ∧ z_.1 ≤ 11) ∧ (z_.2 = cpI f1 f z_.1)) (fun z_ => 11 - z_.1) (fun z_ => [(h0, oB 6 [vi w1, vi h1h, .ref h0r, .ref h0x, .ref h0y, vi n, vi m, vi c]), (h0r, aI g 11 z_.2), (h0x, aI g 10 X), (h0y, aI g 10 Y), (h1, oB 6 [vi w1, vi h1h, .ref h1r, .ref h1x, .ref h1y, vi n1, vi m1, vi c1]), (h1r, aI g 11 f1), (h1x, aI g 10 X1), (h1y, aI g 10 Y1)]) (fun z_ => [(0, .ref h0), (1, .ref h1), (2, vi z_.1)]) (fun z_ hz => ?_) (fun z_ hz ih_18 => ?_) (((0, f) : Int × (Int → Int))) ?_
  · obtain ⟨i, P⟩ := z_
    obtain ⟨hi, hP⟩ := hz
    have hi : 0 ≤ i ∧ i ≤ 11 := hi
    have hP : P = cpI f1 f i := hP
    show (0 : Int) ≤ 11 - i
    omega
  rotate_left
  · show (0 ≤ 0 ∧ 0 ≤ 11) ∧ (f = cpI f1 f 0)
    exact ⟨(by decide), ((cpI_0 _ _).symm)⟩
  obtain ⟨i, P⟩ := z_
  obtain ⟨hi, hP⟩ := hz
  have hi : 0 ≤ i ∧ i ≤ 11 := hi
  have hP : P = cpI f1 f i := hP
  refine r_at (ws' := [(h0, oB 6 [vi w1, vi h1h, .ref h0r, .ref h0x, .ref h0y, vi n, vi m, vi c]), (h0r, aI g 11 P), (h0x, aI g 10 X), (h0y, aI g 10 Y), (h1, oB 6 [vi w1, vi h1h, .ref h1r, .ref h1x, .ref h1y, vi n1, vi m1, vi c1]), (h1r, aI g 11 f1), (h1x, aI g 10 X1), (h1y, aI g 10 Y1)]) (lv' := [(0, .ref h0), (1, .ref h1), (2, vi i)]) rfl rfl ?_
  refine r_iload_n C dX7_copyFrom_18 2 rfl ?_
  refine r_bipush C dX7_copyFrom_19 rfl ?_
  refine r_icmp_ge C 42 dX7_copyFrom_21 rfl (by omega) (fun c_1 => ?_) (fun c_1 => ?_)
  · skip
    have hi11 : i = 11 := by omega
    refine r_ext C (f' := f1) (ws' := [(h0, oB 6 [vi w1, vi h1h, .ref h0r, .ref h0x, .ref h0y, vi n, vi m, vi c]), (h0r, aI g 11 f1), (h0x, aI g 10 X), (h0y, aI g 10 Y), (h1, oB 6 [vi w1, vi h1h, .ref h1r, .ref h1x, .ref h1y, vi n1, vi m1, vi c1]), (h1r, aI g 11 f1), (h1x, aI g 10 X1), (h1y, aI g 10 Y1)]) 1 rfl (fun k h0 h1 => by rw [hP, hi11]; exact cpI_in _ _ h0 h1) rfl ?_
    refine r_iconst C dX7_copyFrom_42 ?_
    refine r_istore_n C (lv' := [(2, vi 0), (0, .ref h0), (1, .ref h1)]) dX7_copyFrom_43 rfl rfl ?_
    refine r_lv (lv' := [(0, .ref h0), (1, .ref h1), (2, vi 0)]) [1, 2, 0] rfl ?_
    refine r_loop (σ := Int × (Int → Int) × (Int → Int)) (fun z_ => (0 ≤ z_.1 ∧ z_.1 ≤ 10) ∧ (z_.2.1 = cpI X1 X z_.1) ∧ (z_.2.2 = cpI Y1 Y z_.1)) (fun z_ => 10 - z_.1) (fun z_ => [(h0, oB 6 [vi w1, vi h1h, .ref h0r, .ref h0x, .ref h0y, vi n, vi m, vi c]), (h0r, aI g 11 f1), (h0x, aI g 10 z_.2.1), (h0y, aI g 10 z_.2.2), (h1, oB 6 [vi w1, vi h1h, .ref h1r, .ref h1x, .ref h1y, vi n1, vi m1, vi c1]), (h1r, aI g 11 f1), (h1x, aI g 10 X1), (h1y, aI g 10 Y1)]) (fun z_ => [(0, .ref h0), (1, .ref h1), (2, vi z_.1)]) (fun z_ hz => ?_) (fun z_ hz ih_44 => ?_) (((0, X, Y) : Int × (Int → Int) × (Int → Int))) ?_
    · obtain ⟨j, P1, P2⟩ := z_
      obtain ⟨hj, hP1, hP2⟩ := hz
      have hj : 0 ≤ j ∧ j ≤ 10 := hj
      have hP1 : P1 = cpI X1 X j := hP1
      have hP2 : P2 = cpI Y1 Y j := hP2
      show (0 : Int) ≤ 10 - j
      omega
    rotate_left
    · show (0 ≤ 0 ∧ 0 ≤ 10) ∧ (X = cpI X1 X 0) ∧ (Y = cpI Y1 Y 0)
      exact ⟨(by decide), ((cpI_0 _ _).symm), ((cpI_0 _ _).symm)⟩
    obtain ⟨j, P1, P2⟩ := z_
    obtain ⟨hj, hP1, hP2⟩ := hz
    have hj : 0 ≤ j ∧ j ≤ 10 := hj
    have hP1 : P1 = cpI X1 X j := hP1
    have hP2 : P2 = cpI Y1 Y j := hP2
    refine r_at (ws' := [(h0, oB 6 [vi w1, vi h1h, .ref h0r, .ref h0x, .ref h0y, vi n, vi m, vi c]), (h0r, aI g 11 f1), (h0x, aI g 10 P1), (h0y, aI g 10 P2), (h1, oB 6 [vi w1, vi h1h, .ref h1r, .ref h1x, .ref h1y, vi n1, vi m1, vi c1]), (h1r, aI g 11 f1), (h1x, aI g 10 X1), (h1y, aI g 10 Y1)]) (lv' := [(0, .ref h0), (1, .ref h1), (2, vi j)]) rfl rfl ?_
    refine r_iload_n C dX7_copyFrom_44 2 rfl ?_
    refine r_bipush C dX7_copyFrom_45 rfl ?_
    refine r_icmp_ge C 80 dX7_copyFrom_47 rfl (by omega) (fun c_2 => ?_) (fun c_2 => ?_)
    · skip
      have hj10 : j = 10 := by omega
      refine r_ext C (f' := X1) (ws' := [(h0, oB 6 [vi w1, vi h1h, .ref h0r, .ref h0x, .ref h0y, vi n, vi m, vi c]), (h0r, aI g 11 f1), (h0x, aI g 10 X1), (h0y, aI g 10 P2), (h1, oB 6 [vi w1, vi h1h, .ref h1r, .ref h1x, .ref h1y, vi n1, vi m1, vi c1]), (h1r, aI g 11 f1), (h1x, aI g 10 X1), (h1y, aI g 10 Y1)]) 2 rfl (fun k h0 h1 => by rw [hP1, hj10]; exact cpI_in _ _ h0 h1) rfl ?_
      refine r_ext C (f' := Y1) (ws' := [(h0, oB 6 [vi w1, vi h1h, .ref h0r, .ref h0x, .ref h0y, vi n, vi m, vi c]), (h0r, aI g 11 f1), (h0x, aI g 10 X1), (h0y, aI g 10 Y1), (h1, oB 6 [vi w1, vi h1h, .ref h1r, .ref h1x, .ref h1y, vi n1, vi m1, vi c1]), (h1r, aI g 11 f1), (h1x, aI g 10 X1), (h1y, aI g 10 Y1)]) 3 rfl (fun k h0 h1 => by rw [hP2, hj10]; exact cpI_in _ _ h0 h1) rfl ?_
      refine r_aload_n C dX7_copyFrom_80 0 rfl ?_
      refine r_aload_n C dX7_copyFrom_81 1 rfl ?_
      refine gf_X7_28 C dX7_copyFrom_82 4 rfl rfl ?_
      refine pf_X7_28 C (ws' := [(h0, oB 6 [vi w1, vi h1h, .ref h0r, .ref h0x, .ref h0y, vi n1, vi m, vi c]), (h0r, aI g 11 f1), (h0x, aI g 10 X1), (h0y, aI g 10 Y1), (h1, oB 6 [vi w1, vi h1h, .ref h1r, .ref h1x, .ref h1y, vi n1, vi m1, vi c1]), (h1r, aI g 11 f1), (h1x, aI g 10 X1), (h1y, aI g 10 Y1)]) dX7_copyFrom_85 0 rfl (Nat.le_of_ble_eq_true rfl) rfl ?_
      refine r_aload_n C dX7_copyFrom_88 0 rfl ?_
      refine r_aload_n C dX7_copyFrom_89 1 rfl ?_
      refine gf_X7_31 C dX7_copyFrom_90 4 rfl rfl ?_
      refine pf_X7_31 C (ws' := [(h0, oB 6 [vi w1, vi h1h, .ref h0r, .ref h0x, .ref h0y, vi n1, vi m1, vi c]), (h0r, aI g 11 f1), (h0x, aI g 10 X1), (h0y, aI g 10 Y1), (h1, oB 6 [vi w1, vi h1h, .ref h1r, .ref h1x, .ref h1y, vi n1, vi m1, vi c1]), (h1r, aI g 11 f1), (h1x, aI g 10 X1), (h1y, aI g 10 Y1)]) dX7_copyFrom_93 0 rfl (Nat.le_of_ble_eq_true rfl) rfl ?_
      refine r_aload_n C dX7_copyFrom_96 0 rfl ?_
      refine r_aload_n C dX7_copyFrom_97 1 rfl ?_
      refine gf_X7_34 C dX7_copyFrom_98 4 rfl rfl ?_
      refine pf_X7_34 C (ws' := [(h0, oB 6 [vi w1, vi h1h, .ref h0r, .ref h0x, .ref h0y, vi n1, vi m1, vi c1]), (h0r, aI g 11 f1), (h0x, aI g 10 X1), (h0y, aI g 10 Y1), (h1, oB 6 [vi w1, vi h1h, .ref h1r, .ref h1x, .ref h1y, vi n1, vi m1, vi c1]), (h1r, aI g 11 f1), (h1x, aI g 10 X1), (h1y, aI g 10 Y1)]) dX7_copyFrom_101 0 rfl (Nat.le_of_ble_eq_true rfl) rfl ?_
      exact e_v C () dX7_copyFrom_104 (trivial) rfl
    · skip
      refine r_aload_n C dX7_copyFrom_50 0 rfl ?_
      refine gf_X7_22 C dX7_copyFrom_51 0 rfl rfl ?_
      refine r_iload_n C dX7_copyFrom_54 2 rfl ?_
      refine r_aload_n C dX7_copyFrom_55 1 rfl ?_
      refine gf_X7_22 C dX7_copyFrom_56 4 rfl rfl ?_
      refine r_iload_n C dX7_copyFrom_59 2 rfl ?_
      refine r_iald C dX7_copyFrom_60 6 rfl rfl (by omega) ?_
      refine r_iast C (ws' := [(h0, oB 6 [vi w1, vi h1h, .ref h0r, .ref h0x, .ref h0y, vi n, vi m, vi c]), (h0r, aI g 11 f1), (h0x, aI g 10 (zU P1 j (X1 j))), (h0y, aI g 10 P2), (h1, oB 6 [vi w1, vi h1h, .ref h1r, .ref h1x, .ref h1y, vi n1, vi m1, vi c1]), (h1r, aI g 11 f1), (h1x, aI g 10 X1), (h1y, aI g 10 Y1)]) dX7_copyFrom_61 2 rfl rfl (by omega) rfl ?_
      refine r_aload_n C dX7_copyFrom_62 0 rfl ?_
      refine gf_X7_25 C dX7_copyFrom_63 0 rfl rfl ?_
      refine r_iload_n C dX7_copyFrom_66 2 rfl ?_
      refine r_aload_n C dX7_copyFrom_67 1 rfl ?_
      refine gf_X7_25 C dX7_copyFrom_68 4 rfl rfl ?_
      refine r_iload_n C dX7_copyFrom_71 2 rfl ?_
      refine r_iald C dX7_copyFrom_72 7 rfl rfl (by omega) ?_
      refine r_iast C (ws' := [(h0, oB 6 [vi w1, vi h1h, .ref h0r, .ref h0x, .ref h0y, vi n, vi m, vi c]), (h0r, aI g 11 f1), (h0x, aI g 10 (zU P1 j (X1 j))), (h0y, aI g 10 (zU P2 j (Y1 j))), (h1, oB 6 [vi w1, vi h1h, .ref h1r, .ref h1x, .ref h1y, vi n1, vi m1, vi c1]), (h1r, aI g 11 f1), (h1x, aI g 10 X1), (h1y, aI g 10 Y1)]) dX7_copyFrom_73 3 rfl rfl (by omega) rfl ?_
      refine r_iinc C (lv' := [(2, vi (j + 1)), (0, .ref h0), (1, .ref h1)]) dX7_copyFrom_74 2 rfl rfl rfl ?_
      refine r_goto C 44 dX7_copyFrom_77 rfl ?_
      refine r_lv (lv' := [(0, .ref h0), (1, .ref h1), (2, vi (j + 1))]) [1, 2, 0] rfl ?_
      exact ih_44 (j + 1, zU P1 j (X1 j), zU P2 j (Y1 j)) (show (0 ≤ (j + 1) ∧ (j + 1) ≤ 10) ∧ ((zU P1 j (X1 j)) = cpI X1 X (j + 1)) ∧ ((zU P2 j (Y1 j)) = cpI Y1 Y (j + 1)) from ⟨(by omega), (by rw [hP1]; exact cpI_s X1 _ hj.1), (by rw [hP2]; exact cpI_s Y1 _ hj.1)⟩) (show 10 - (j + 1) < 10 - j from by omega)
  · skip
    refine r_aload_n C dX7_copyFrom_24 0 rfl ?_
    refine gf_X7_18 C dX7_copyFrom_25 0 rfl rfl ?_
    refine r_iload_n C dX7_copyFrom_28 2 rfl ?_
    refine r_aload_n C dX7_copyFrom_29 1 rfl ?_
    refine gf_X7_18 C dX7_copyFrom_30 4 rfl rfl ?_
    refine r_iload_n C dX7_copyFrom_33 2 rfl ?_
    refine r_iald C dX7_copyFrom_34 5 rfl rfl (by omega) ?_
    refine r_iast C (ws' := [(h0, oB 6 [vi w1, vi h1h, .ref h0r, .ref h0x, .ref h0y, vi n, vi m, vi c]), (h0r, aI g 11 (zU P i (f1 i))), (h0x, aI g 10 X), (h0y, aI g 10 Y), (h1, oB 6 [vi w1, vi h1h, .ref h1r, .ref h1x, .ref h1y, vi n1, vi m1, vi c1]), (h1r, aI g 11 f1), (h1x, aI g 10 X1), (h1y, aI g 10 Y1)]) dX7_copyFrom_35 1 rfl rfl (by omega) rfl ?_
    refine r_iinc C (lv' := [(2, vi (i + 1)), (0, .ref h0), (1, .ref h1)]) dX7_copyFrom_36 2 rfl rfl rfl ?_
    refine r_goto C 18 dX7_copyFrom_39 rfl ?_
    refine r_lv (lv' := [(0, .ref h0), (1, .ref h1), (2, vi (i + 1))]) [1, 2, 0] rfl ?_
    exact ih_18 (i + 1, zU P i (f1 i)) (show (0 ≤ (i + 1) ∧ (i + 1) ≤ 11) ∧ ((zU P i (f1 i)) = cpI f1 f (i + 1)) from ⟨(by omega), (by rw [hP]; exact cpI_s f1 _ hi.1)⟩) (show 11 - (i + 1) < 11 - i from by omega)
