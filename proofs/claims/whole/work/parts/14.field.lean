theorem dst_ub {m dx dy : Int} (hx : -200 ≤ dx ∧ dx ≤ 200) (hy : -200 ≤ dy ∧ dy ≤ 200) (hm : 0 ≤ m ∧ m ≤ 2) : dst m dx dy ≤ 1000 := by
  unfold dst ab
  split
  · omega
  · split <;> omega
set_option maxHeartbeats 1000000 in
set_option maxRecDepth 100000 in
theorem c_X1_indexOf (l : Launch) (g : Gx) (x : Int) (y : Int) (sz : Nat) : Met l yX1_indexOf (.code yX1_indexOf cX1_indexOf 2 (some .int) :: wsL_law) { frames := 0, cells := 0, slots := 0, locals := 0 } (PR g [vi x, vi y] [] sz) (PI (S := Unit) g (fun r u_ => r = ix x y) (fun u_ => []) [] sz) 0 0 (va_A [] sz) := by
  refine meet (own := RX1) rfl (plainFor_of_name (by decide +kernel)) rfl (fun p_ e_ s_ m_ args_ below_ meth_ c_ C hnm => ?_)
  refine r_at (ws' := []) (lv' := [(0, vi x), (1, vi y)]) rfl rfl ?_
  refine r_iload_n C dX1_indexOf_0 1 rfl ?_
  refine r_iconst C dX1_indexOf_1 ?_
  refine r_iadd C dX1_indexOf_2 ?_
  refine r_bipush C dX1_indexOf_3 rfl ?_
  refine r_imul C dX1_indexOf_5 ?_
  refine r_iload_n C dX1_indexOf_6 0 rfl ?_
  refine r_iadd C dX1_indexOf_7 ?_
  refine r_iconst C dX1_indexOf_8 ?_
  refine r_iadd C dX1_indexOf_9 ?_
  exact e_i C () dX1_indexOf_10 (show ((((y + 1) * 13) + x) + 1) = ix x y from rfl) rfl
set_option maxHeartbeats 1000000 in
set_option maxRecDepth 100000 in
theorem c_X1_start (l : Launch) (g : Gx) (h0 : Nat) (h0r : Nat) (h0x : Nat) (h0y : Nat) (w : Int) (h : Int) (n : Int) (m : Int) (c : Int) (f : Int → Int) (hd : Nat) (hdf : Nat) (D : Int → Int) (fw : Int) (fh : Int) (hw : 4 ≤ w ∧ w ≤ 11) (hh : 4 ≤ h ∧ h ≤ 11) (hf : ∀ k : Int, 0 ≤ k → k < 11 → 0 ≤ f k ∧ f k ≤ 2047) (hm : 0 ≤ m ∧ m ≤ 2) (hc : 1 ≤ c ∧ c ≤ 99) (sz : Nat) : Met l yX1_start (.code yX1_start cX1_start 4 none :: wsL_law) { frames := 1, cells := 0, slots := 0, locals := 21 } (PR g [.ref hd, .ref h0] [(h0, oB 6 [vi w, vi h, .ref h0r, .ref h0x, .ref h0y, vi n, vi m, vi c]), (h0r, aI g 11 f), (hd, oB 1 [.ref hdf, vi fw, vi fh]), (hdf, aI g 169 D)] sz) (PV (S := (Int → Int)) g (fun u_ => FwI w h f m c u_ 0 0) (fun u_ => [(h0, oB 6 [vi w, vi h, .ref h0r, .ref h0x, .ref h0y, vi n, vi m, vi c]), (h0r, aI g 11 f), (hd, oB 1 [.ref hdf, vi w, vi h]), (hdf, aI g 169 u_)]) [(h0, oB 6 [vi w, vi h, .ref h0r, .ref h0x, .ref h0y, vi n, vi m, vi c]), (h0r, aI g 11 f), (hd, oB 1 [.ref hdf, vi fw, vi fh]), (hdf, aI g 169 D)] sz) 0 0 (va_A [(h0, oB 6 [vi w, vi h, .ref h0r, .ref h0x, .ref h0y, vi n, vi m, vi c]), (h0r, aI g 11 f), (hd, oB 1 [.ref hdf, vi fw, vi fh]), (hdf, aI g 169 D)] sz) := by
  refine meet (own := RX1) rfl (plainFor_of_name (by decide +kernel)) rfl (fun p_ e_ s_ m_ args_ below_ meth_ c_ C hnm => ?_)
  refine r_at (ws' := [(h0, oB 6 [vi w, vi h, .ref h0r, .ref h0x, .ref h0y, vi n, vi m, vi c]), (h0r, aI g 11 f), (hd, oB 1 [.ref hdf, vi fw, vi fh]), (hdf, aI g 169 D)]) (lv' := [(0, .ref hd), (1, .ref h0)]) rfl rfl ?_
  refine r_aload_n C dX1_start_0 0 rfl ?_
  refine r_aload_n C dX1_start_1 1 rfl ?_
  refine gf_X1_49 C dX1_start_2 0 rfl rfl ?_
  refine pf_X1_15 C (ws' := [(h0, oB 6 [vi w, vi h, .ref h0r, .ref h0x, .ref h0y, vi n, vi m, vi c]), (h0r, aI g 11 f), (hd, oB 1 [.ref hdf, vi w, vi fh]), (hdf, aI g 169 D)]) dX1_start_5 2 rfl (Nat.le_of_ble_eq_true rfl) rfl ?_
  refine r_aload_n C dX1_start_8 0 rfl ?_
  refine r_aload_n C dX1_start_9 1 rfl ?_
  refine gf_X1_50 C dX1_start_10 0 rfl rfl ?_
  refine pf_X1_19 C (ws' := [(h0, oB 6 [vi w, vi h, .ref h0r, .ref h0x, .ref h0y, vi n, vi m, vi c]), (h0r, aI g 11 f), (hd, oB 1 [.ref hdf, vi w, vi h]), (hdf, aI g 169 D)]) dX1_start_13 2 rfl (Nat.le_of_ble_eq_true rfl) rfl ?_
  refine r_iconst C dX1_start_16 ?_
  refine r_istore_n C (lv' := [(2, vi 0), (0, .ref hd), (1, .ref h0)]) dX1_start_17 rfl rfl ?_
  refine r_lv (lv' := [(0, .ref hd), (1, .ref h0), (2, vi 0)]) [1, 2, 0] rfl ?_
  refine r_loop (σ := Int × (Int → Int)) (fun z_ => (0 ≤ z_.1 ∧ z_.1 ≤ 169) ∧ (∀ k : Int, 0 ≤ k → k < z_.1 → z_.2 k = c)) (fun z_ => 169 - z_.1) (fun z_ => [(h0, oB 6 [vi w, vi h, .ref h0r, .ref h0x, .ref h0y, vi n, vi m, vi c]), (h0r, aI g 11 f), (hd, oB 1 [.ref hdf, vi w, vi h]), (hdf, aI g 169 z_.2)]) (fun z_ => [(0, .ref hd), (1, .ref h0), (2, vi z_.1)]) (fun z_ hz => ?_) (fun z_ hz ih_18 => ?_) (((0, D) : Int × (Int → Int))) ?_
  · obtain ⟨i, P⟩ := z_
    obtain ⟨hi, hP⟩ := hz
    have hi : 0 ≤ i ∧ i ≤ 169 := hi
    have hP : ∀ k : Int, 0 ≤ k → k < i → P k = c := hP
    show (0 : Int) ≤ 169 - i
    omega
  rotate_left
  · show (0 ≤ 0 ∧ 0 ≤ 169) ∧ (∀ k : Int, 0 ≤ k → k < 0 → D k = c)
    exact ⟨(by decide), (fun k h0 h1 => by omega)⟩
  obtain ⟨i, P⟩ := z_
  obtain ⟨hi, hP⟩ := hz
  have hi : 0 ≤ i ∧ i ≤ 169 := hi
  have hP : ∀ k : Int, 0 ≤ k → k < i → P k = c := hP
  refine r_at (ws' := [(h0, oB 6 [vi w, vi h, .ref h0r, .ref h0x, .ref h0y, vi n, vi m, vi c]), (h0r, aI g 11 f), (hd, oB 1 [.ref hdf, vi w, vi h]), (hdf, aI g 169 P)]) (lv' := [(0, .ref hd), (1, .ref h0), (2, vi i)]) rfl rfl ?_
  refine r_iload_n C dX1_start_18 2 rfl ?_
  refine r_aload_n C dX1_start_19 0 rfl ?_
  refine gf_X1_11 C dX1_start_20 2 rfl rfl ?_
  refine r_ilen C dX1_start_23 3 rfl ?_
  refine r_eq (y := 169) rfl ?_
  refine r_icmp_ge C 43 dX1_start_24 rfl (by omega) (fun c_1 => ?_) (fun c_1 => ?_)
  · skip
    refine r_iconst C dX1_start_43 ?_
    refine r_istore_n C (lv' := [(2, vi 0), (0, .ref hd), (1, .ref h0)]) dX1_start_44 rfl rfl ?_
    refine r_lv (lv' := [(0, .ref hd), (1, .ref h0), (2, vi 0)]) [1, 2, 0] rfl ?_
    refine r_loop (σ := Int × (Int → Int)) (fun z_ => (0 ≤ z_.1 ∧ z_.1 ≤ h) ∧ (STI w h f c z_.2 0 z_.1)) (fun z_ => h - z_.1) (fun z_ => [(h0, oB 6 [vi w, vi h, .ref h0r, .ref h0x, .ref h0y, vi n, vi m, vi c]), (h0r, aI g 11 f), (hd, oB 1 [.ref hdf, vi w, vi h]), (hdf, aI g 169 z_.2)]) (fun z_ => [(0, .ref hd), (1, .ref h0), (2, vi z_.1)]) (fun z_ hz => ?_) (fun z_ hz ih_45 => ?_) (((0, P) : Int × (Int → Int))) ?_
    · obtain ⟨y, P1⟩ := z_
      obtain ⟨hy, hP1⟩ := hz
      have hy : 0 ≤ y ∧ y ≤ h := hy
      have hP1 : STI w h f c P1 0 y := hP1
      show (0 : Int) ≤ h - y
      omega
    rotate_left
    · show (0 ≤ 0 ∧ 0 ≤ h) ∧ (STI w h f c P 0 0)
      exact ⟨(by omega), (STI_0 (fun k h0 h1 => hP k h0 (by omega)))⟩
    obtain ⟨y, P1⟩ := z_
    obtain ⟨hy, hP1⟩ := hz
    have hy : 0 ≤ y ∧ y ≤ h := hy
    have hP1 : STI w h f c P1 0 y := hP1
    refine r_at (ws' := [(h0, oB 6 [vi w, vi h, .ref h0r, .ref h0x, .ref h0y, vi n, vi m, vi c]), (h0r, aI g 11 f), (hd, oB 1 [.ref hdf, vi w, vi h]), (hdf, aI g 169 P1)]) (lv' := [(0, .ref hd), (1, .ref h0), (2, vi y)]) rfl rfl ?_
    refine r_iload_n C dX1_start_45 2 rfl ?_
    refine r_aload_n C dX1_start_46 0 rfl ?_
    refine gf_X1_19 C dX1_start_47 2 rfl rfl ?_
    refine r_icmp_ge C 109 dX1_start_50 rfl (by omega) (fun c_2 => ?_) (fun c_2 => ?_)
    · skip
      exact e_v C P1 dX1_start_109 (show FwI w h f m c P1 0 0 from STI_Fw (by omega) (by omega) (by omega) hP1) rfl
    · skip
      refine r_iload_n C dX1_start_53 2 rfl ?_
      refine r_aload_n C dX1_start_54 1 rfl ?_
      refine gf_X1_54 C dX1_start_55 0 rfl rfl ?_
      refine r_ilen C dX1_start_58 1 rfl ?_
      refine r_eq (y := 11) rfl ?_
      refine r_icmp_ge C 109 dX1_start_59 rfl (by omega) (fun c_3 => ?_) (fun c_3 => ?_)
      · skip
        exact absurd hh (by omega)
      · skip
        refine r_iconst C dX1_start_62 ?_
        refine r_istore_n C (lv' := [(3, vi 0), (0, .ref hd), (1, .ref h0), (2, vi y)]) dX1_start_63 rfl rfl ?_
        refine r_lv (lv' := [(0, .ref hd), (1, .ref h0), (2, vi y), (3, vi 0)]) [1, 2, 3, 0] rfl ?_
        refine r_loop (σ := Int × (Int → Int)) (fun z_ => (0 ≤ z_.1 ∧ z_.1 ≤ w) ∧ (STI w h f c z_.2 z_.1 y)) (fun z_ => w - z_.1) (fun z_ => [(h0, oB 6 [vi w, vi h, .ref h0r, .ref h0x, .ref h0y, vi n, vi m, vi c]), (h0r, aI g 11 f), (hd, oB 1 [.ref hdf, vi w, vi h]), (hdf, aI g 169 z_.2)]) (fun z_ => [(0, .ref hd), (1, .ref h0), (2, vi y), (3, vi z_.1)]) (fun z_ hz => ?_) (fun z_ hz ih_64 => ?_) (((0, P1) : Int × (Int → Int))) ?_
        · obtain ⟨x, P2⟩ := z_
          obtain ⟨hx, hP2⟩ := hz
          have hx : 0 ≤ x ∧ x ≤ w := hx
          have hP2 : STI w h f c P2 x y := hP2
          show (0 : Int) ≤ w - x
          omega
        rotate_left
        · show (0 ≤ 0 ∧ 0 ≤ w) ∧ (STI w h f c P1 0 y)
          exact ⟨(by omega), (hP1)⟩
        obtain ⟨x, P2⟩ := z_
        obtain ⟨hx, hP2⟩ := hz
        have hx : 0 ≤ x ∧ x ≤ w := hx
        have hP2 : STI w h f c P2 x y := hP2
        refine r_at (ws' := [(h0, oB 6 [vi w, vi h, .ref h0r, .ref h0x, .ref h0y, vi n, vi m, vi c]), (h0r, aI g 11 f), (hd, oB 1 [.ref hdf, vi w, vi h]), (hdf, aI g 169 P2)]) (lv' := [(0, .ref hd), (1, .ref h0), (2, vi y), (3, vi x)]) rfl rfl ?_
        refine r_iload_n C dX1_start_64 3 rfl ?_
        refine r_aload_n C dX1_start_65 0 rfl ?_
        refine gf_X1_15 C dX1_start_66 2 rfl rfl ?_
        refine r_icmp_ge C 103 dX1_start_69 rfl (by omega) (fun c_4 => ?_) (fun c_4 => ?_)
        · skip
          refine r_iinc C (lv' := [(2, vi (y + 1)), (0, .ref hd), (1, .ref h0), (3, vi x)]) dX1_start_103 2 rfl rfl rfl ?_
          refine r_goto C 45 dX1_start_106 rfl ?_
          refine r_lv (lv' := [(0, .ref hd), (1, .ref h0), (2, vi (y + 1))]) [1, 2, 0] rfl ?_
          exact ih_45 (y + 1, P2) (show (0 ≤ (y + 1) ∧ (y + 1) ≤ h) ∧ (STI w h f c P2 0 (y + 1)) from ⟨(by omega), (STI_r (by omega) hP2)⟩) (show h - (y + 1) < h - y from by omega)
        · skip
          refine r_aload_n C dX1_start_72 1 rfl ?_
          refine gf_X1_54 C dX1_start_73 0 rfl rfl ?_
          refine r_iload_n C dX1_start_76 2 rfl ?_
          refine r_iald C dX1_start_77 1 rfl rfl (by omega) ?_
          have b_77 := hf y (by omega) (by omega)
          refine r_iload_n C dX1_start_78 3 rfl ?_
          refine r_ishr C (z := ((f y) / 2 ^ (x).toNat)) dX1_start_79 (z_shr (by omega) (by omega)) ?_
          refine r_iconst C dX1_start_80 ?_
          refine r_iand C (z := (tb (f y) x)) dX1_start_81 (z_and1 (z_half (by omega) (by omega))) ?_
          have e01 := eA_01 w h f x y
          have het : eA w h f x y = tb (f y) x := by unfold eA; rw [if_pos (by omega)]
          refine r_iconst C dX1_start_82 ?_
          refine r_icmp_ne C 97 dX1_start_83 rfl (by omega) (fun c_5 => ?_) (fun c_5 => ?_)
          · skip
            refine r_iinc C (lv' := [(3, vi (x + 1)), (0, .ref hd), (1, .ref h0), (2, vi y)]) dX1_start_97 3 rfl rfl rfl ?_
            refine r_goto C 64 dX1_start_100 rfl ?_
            refine r_lv (lv' := [(0, .ref hd), (1, .ref h0), (2, vi y), (3, vi (x + 1))]) [1, 2, 3, 0] rfl ?_
            exact ih_64 (x + 1, P2) (show (0 ≤ (x + 1) ∧ (x + 1) ≤ w) ∧ (STI w h f c P2 (x + 1) y) from ⟨(by omega), (STI_n (by omega) hP2)⟩) (show w - (x + 1) < w - x from by omega)
          · skip
            refine r_aload_n C dX1_start_86 0 rfl ?_
            refine gf_X1_11 C dX1_start_87 2 rfl rfl ?_
            refine r_iload_n C dX1_start_90 3 rfl ?_
            refine r_iload_n C dX1_start_91 2 rfl ?_
            refine k_Si C ks_X1_41 (fun sz => c_X1_indexOf l g x y sz) dX1_start_92 rfl rfl rfl ⟨rfl, rfl⟩ [] rfl rfl (fun _ => rfl) (ws' := fun u_ => [(h0, oB 6 [vi w, vi h, .ref h0r, .ref h0x, .ref h0y, vi n, vi m, vi c]), (h0r, aI g 11 f), (hd, oB 1 [.ref hdf, vi w, vi h]), (hdf, aI g 169 P2)]) (fun _ => rfl) (fun r_92 u_ p_92 => ?_)
            have p_92 : r_92 = ix x y := p_92
            refine r_eq (y := (ix x y)) p_92 ?_
            refine r_iconst C dX1_start_95 ?_
            refine r_iast C (ws' := [(h0, oB 6 [vi w, vi h, .ref h0r, .ref h0x, .ref h0y, vi n, vi m, vi c]), (h0r, aI g 11 f), (hd, oB 1 [.ref hdf, vi w, vi h]), (hdf, aI g 169 (zU P2 (ix x y) 0))]) dX1_start_96 3 rfl rfl (by unfold ix; omega) rfl ?_
            refine r_iinc C (lv' := [(3, vi (x + 1)), (0, .ref hd), (1, .ref h0), (2, vi y)]) dX1_start_97 3 rfl rfl rfl ?_
            refine r_goto C 64 dX1_start_100 rfl ?_
            refine r_lv (lv' := [(0, .ref hd), (1, .ref h0), (2, vi y), (3, vi (x + 1))]) [1, 2, 3, 0] rfl ?_
            exact ih_64 (x + 1, zU P2 (ix x y) 0) (show (0 ≤ (x + 1) ∧ (x + 1) ≤ w) ∧ (STI w h f c (zU P2 (ix x y) 0) (x + 1) y) from ⟨(by omega), (STI_e (by omega) (by omega) hP2)⟩) (show w - (x + 1) < w - x from by omega)
  · skip
    refine r_aload_n C dX1_start_27 0 rfl ?_
    refine gf_X1_11 C dX1_start_28 2 rfl rfl ?_
    refine r_iload_n C dX1_start_31 2 rfl ?_
    refine r_aload_n C dX1_start_32 1 rfl ?_
    refine gf_X1_51 C dX1_start_33 0 rfl rfl ?_
    refine r_iast C (ws' := [(h0, oB 6 [vi w, vi h, .ref h0r, .ref h0x, .ref h0y, vi n, vi m, vi c]), (h0r, aI g 11 f), (hd, oB 1 [.ref hdf, vi w, vi h]), (hdf, aI g 169 (zU P i c))]) dX1_start_36 3 rfl rfl (by omega) rfl ?_
    refine r_iinc C (lv' := [(2, vi (i + 1)), (0, .ref hd), (1, .ref h0)]) dX1_start_37 2 rfl rfl rfl ?_
    refine r_goto C 18 dX1_start_40 rfl ?_
    refine r_lv (lv' := [(0, .ref hd), (1, .ref h0), (2, vi (i + 1))]) [1, 2, 0] rfl ?_
    exact ih_18 (i + 1, zU P i c) (show (0 ≤ (i + 1) ∧ (i + 1) ≤ 169) ∧ (∀ k : Int, 0 ≤ k → k < (i + 1) → (zU P i c) k = c) from ⟨(by omega), (zU_all hP rfl)⟩) (show 169 - (i + 1) < 169 - i from by omega)
set_option maxHeartbeats 1000000 in
set_option maxRecDepth 100000 in
theorem c_X1_stepTo (l : Launch) (g : Gx) (hd : Nat) (hdf : Nat) (D : Int → Int) (fw : Int) (fh : Int) (i : Int) (sd : Int) (a : Int) (b : Int) (hsd : sd = 1 ∨ sd = -1) (hi : 14 ≤ i ∧ i ≤ 154) (hab : 0 ≤ a ∧ a ≤ 4 ∧ 0 ≤ b ∧ b ≤ 4) (hD : ∀ k : Int, 0 ≤ k → k < 169 → 0 ≤ D k ∧ D k ≤ 99) (sz : Nat) : Met l yX1_stepTo (.code yX1_stepTo cX1_stepTo 8 none :: wsL_law) { frames := 1, cells := 0, slots := 0, locals := 16 } (PR g [.ref hd, vi i, vi sd, vi a, vi b] [(hd, oB 1 [.ref hdf, vi fw, vi fh]), (hdf, aI g 169 D)] sz) (PV (S := Unit) g (fun u_ => True) (fun u_ => [(hd, oB 1 [.ref hdf, vi fw, vi fh]), (hdf, aI g 169 (zU D i (stV a b D i sd)))]) [(hd, oB 1 [.ref hdf, vi fw, vi fh]), (hdf, aI g 169 D)] sz) 0 0 (va_A [(hd, oB 1 [.ref hdf, vi fw, vi fh]), (hdf, aI g 169 D)] sz) := by
  refine meet (own := RX1) rfl (plainFor_of_name (by decide +kernel)) rfl (fun p_ e_ s_ m_ args_ below_ meth_ c_ C hnm => ?_)
  refine r_at (ws' := [(hd, oB 1 [.ref hdf, vi fw, vi fh]), (hdf, aI g 169 D)]) (lv' := [(0, .ref hd), (1, vi i), (2, vi sd), (3, vi a), (4, vi b)]) rfl rfl ?_
  refine r_iload_n C dX1_stepTo_0 1 rfl ?_
  refine r_iload_n C dX1_stepTo_1 2 rfl ?_
  refine r_bipush C dX1_stepTo_2 rfl ?_
  refine r_imul C dX1_stepTo_4 ?_
  refine r_iadd C dX1_stepTo_5 ?_
  refine r_istore C (lv' := [(5, vi (i + (sd * 13))), (0, .ref hd), (1, vi i), (2, vi sd), (3, vi a), (4, vi b)]) dX1_stepTo_6 rfl rfl ?_
  refine r_aload_n C dX1_stepTo_8 1 rfl ?_
  refine gf_X1_11 C dX1_stepTo_9 0 rfl rfl ?_
  refine r_iload_n C dX1_stepTo_12 2 rfl ?_
  refine r_iload_n C dX1_stepTo_13 3 rfl ?_
  refine r_iadd C dX1_stepTo_14 ?_
  refine r_iald C dX1_stepTo_15 1 rfl rfl (by omega) ?_
  have b_15 := hD (i + sd) (by omega) (by omega)
  refine r_aload_n C dX1_stepTo_16 1 rfl ?_
  refine gf_X1_11 C dX1_stepTo_17 0 rfl rfl ?_
  refine r_iload C dX1_stepTo_20 0 rfl ?_
  refine r_iald C dX1_stepTo_22 1 rfl rfl (by omega) ?_
  have b_22 := hD (i + (sd * 13)) (by omega) (by omega)
  refine r_mmin C (in_r21 (List.mem_of_getElem? (i := 10) rfl)) dX1_stepTo_23 ⟨rfl, rfl, rfl, rfl⟩ (by omega) ?_
  refine r_iload_n C dX1_stepTo_26 4 rfl ?_
  refine r_iadd C dX1_stepTo_27 ?_
  refine r_istore C (lv' := [(6, vi ((min (D (i + sd)) (D (i + (sd * 13)))) + a)), (5, vi (i + (sd * 13))), (0, .ref hd), (1, vi i), (2, vi sd), (3, vi a), (4, vi b)]) dX1_stepTo_28 rfl rfl ?_
  refine r_aload_n C dX1_stepTo_30 2 rfl ?_
  refine gf_X1_11 C dX1_stepTo_31 0 rfl rfl ?_
  refine r_iload C dX1_stepTo_34 1 rfl ?_
  refine r_iconst C dX1_stepTo_36 ?_
  refine r_isub C dX1_stepTo_37 ?_
  refine r_iald C dX1_stepTo_38 1 rfl rfl (by omega) ?_
  have b_38 := hD ((i + (sd * 13)) - 1) (by omega) (by omega)
  refine r_aload_n C dX1_stepTo_39 2 rfl ?_
  refine gf_X1_11 C dX1_stepTo_40 0 rfl rfl ?_
  refine r_iload C dX1_stepTo_43 1 rfl ?_
  refine r_iconst C dX1_stepTo_45 ?_
  refine r_iadd C dX1_stepTo_46 ?_
  refine r_iald C dX1_stepTo_47 1 rfl rfl (by omega) ?_
  have b_47 := hD ((i + (sd * 13)) + 1) (by omega) (by omega)
  refine r_mmin C (in_r21 (List.mem_of_getElem? (i := 10) rfl)) dX1_stepTo_48 ⟨rfl, rfl, rfl, rfl⟩ (by omega) ?_
  refine r_iload C dX1_stepTo_51 6 rfl ?_
  refine r_iadd C dX1_stepTo_53 ?_
  refine r_istore C (lv' := [(7, vi ((min (D ((i + (sd * 13)) - 1)) (D ((i + (sd * 13)) + 1))) + b)), (6, vi ((min (D (i + sd)) (D (i + (sd * 13)))) + a)), (5, vi (i + (sd * 13))), (0, .ref hd), (1, vi i), (2, vi sd), (3, vi a), (4, vi b)]) dX1_stepTo_54 rfl rfl ?_
  refine r_aload_n C dX1_stepTo_56 3 rfl ?_
  refine gf_X1_11 C dX1_stepTo_57 0 rfl rfl ?_
  refine r_iload_n C dX1_stepTo_60 4 rfl ?_
  refine r_aload_n C dX1_stepTo_61 3 rfl ?_
  refine gf_X1_11 C dX1_stepTo_62 0 rfl rfl ?_
  refine r_iload_n C dX1_stepTo_65 4 rfl ?_
  refine r_iald C dX1_stepTo_66 1 rfl rfl (by omega) ?_
  have b_66 := hD i (by omega) (by omega)
  refine r_iload C dX1_stepTo_67 1 rfl ?_
  refine r_iload C dX1_stepTo_69 0 rfl ?_
  refine r_mmin C (in_r21 (List.mem_of_getElem? (i := 10) rfl)) dX1_stepTo_71 ⟨rfl, rfl, rfl, rfl⟩ (by omega) ?_
  refine r_mmin C (in_r21 (List.mem_of_getElem? (i := 10) rfl)) dX1_stepTo_74 ⟨rfl, rfl, rfl, rfl⟩ (by omega) ?_
  refine r_iast C (ws' := [(hd, oB 1 [.ref hdf, vi fw, vi fh]), (hdf, aI g 169 (zU D i (min (D i) (min ((min (D (i + sd)) (D (i + (sd * 13)))) + a) ((min (D ((i + (sd * 13)) - 1)) (D ((i + (sd * 13)) + 1))) + b)))))]) dX1_stepTo_77 1 rfl rfl (by omega) rfl ?_
  exact e_v C () dX1_stepTo_78 (trivial) rfl
set_option maxHeartbeats 1000000 in
set_option maxRecDepth 100000 in
theorem c_X1_workOut (l : Launch) (g : Gx) (h0 : Nat) (h0r : Nat) (h0x : Nat) (h0y : Nat) (w : Int) (h : Int) (n : Int) (m : Int) (c : Int) (f : Int → Int) (hd : Nat) (hdf : Nat) (D : Int → Int) (fw : Int) (fh : Int) (hw : 4 ≤ w ∧ w ≤ 11) (hh : 4 ≤ h ∧ h ≤ 11) (hf : ∀ k : Int, 0 ≤ k → k < 11 → 0 ≤ f k ∧ f k ≤ 2047) (hm : 0 ≤ m ∧ m ≤ 2) (hc : 1 ≤ c ∧ c ≤ 99) (sz : Nat) : Met l yX1_workOut (.code yX1_workOut cX1_workOut 7 none :: wsL_law) { frames := 2, cells := 0, slots := 0, locals := 44 } (PR g [.ref hd, .ref h0] [(h0, oB 6 [vi w, vi h, .ref h0r, .ref h0x, .ref h0y, vi n, vi m, vi c]), (h0r, aI g 11 f), (hd, oB 1 [.ref hdf, vi fw, vi fh]), (hdf, aI g 169 D)] sz) (PV (S := (Int → Int)) g (fun u_ => FLD w h f m c u_ ∧ ∀ k : Int, 0 ≤ k → k < 169 → 0 ≤ u_ k ∧ u_ k ≤ 99) (fun u_ => [(h0, oB 6 [vi w, vi h, .ref h0r, .ref h0x, .ref h0y, vi n, vi m, vi c]), (h0r, aI g 11 f), (hd, oB 1 [.ref hdf, vi w, vi h]), (hdf, aI g 169 u_)]) [(h0, oB 6 [vi w, vi h, .ref h0r, .ref h0x, .ref h0y, vi n, vi m, vi c]), (h0r, aI g 11 f), (hd, oB 1 [.ref hdf, vi fw, vi fh]), (hdf, aI g 169 D)] sz) 0 0 (va_A [(h0, oB 6 [vi w, vi h, .ref h0r, .ref h0x, .ref h0y, vi n, vi m, vi c]), (h0r, aI g 11 f), (hd, oB 1 [.ref hdf, vi fw, vi fh]), (hdf, aI g 169 D)] sz) := by
  refine meet (own := RX1) rfl (plainFor_of_name (by decide +kernel)) rfl (fun p_ e_ s_ m_ args_ below_ meth_ c_ C hnm => ?_)
  refine r_at (ws' := [(h0, oB 6 [vi w, vi h, .ref h0r, .ref h0x, .ref h0y, vi n, vi m, vi c]), (h0r, aI g 11 f), (hd, oB 1 [.ref hdf, vi fw, vi fh]), (hdf, aI g 169 D)]) (lv' := [(0, .ref hd), (1, .ref h0)]) rfl rfl ?_
  obtain ⟨a1, a2, z1, t1, z2, t2⟩ := id C.2.2.2.2.2.2.2.2.2.2
  have hm3 : m = 0 ∨ m = 1 ∨ m = 2 := by omega
  have hsab := sAB hm3
  refine r_aload_n C dX1_workOut_0 0 rfl ?_
  refine r_aload_n C dX1_workOut_1 1 rfl ?_
  refine m_Vv C kv_X1_22 (fun sz => c_X1_start l g h0 h0r h0x h0y w h n m c f hd hdf D fw fh (by omega) (by omega) (by omega) (by omega) (by omega) sz) dX1_workOut_2 rfl rfl rfl ⟨rfl, rfl⟩ 2 1 rfl rfl rfl [true, true, true, true] rfl (fun _ => rfl) (ws' := fun u_ => [(h0, oB 6 [vi w, vi h, .ref h0r, .ref h0x, .ref h0y, vi n, vi m, vi c]), (h0r, aI g 11 f), (hd, oB 1 [.ref hdf, vi w, vi h]), (hdf, aI g 169 u_)]) (fun _ => rfl) (fun u_ p_2 => ?_)
  obtain ⟨D2_2, rfl⟩ : ∃ w_, w_ = u_ := ⟨_, rfl⟩
  refine r_at (ws' := [(h0, oB 6 [vi w, vi h, .ref h0r, .ref h0x, .ref h0y, vi n, vi m, vi c]), (h0r, aI g 11 f), (hd, oB 1 [.ref hdf, vi w, vi h]), (hdf, aI g 169 D2_2)]) (lv' := [(0, .ref hd), (1, .ref h0)]) rfl rfl ?_
  have p_2 : FwI w h f m c D2_2 0 0 := p_2
  refine r_iconst C dX1_workOut_5 ?_
  refine r_aload_n C dX1_workOut_6 1 rfl ?_
  refine gf_X1_26 C dX1_workOut_7 0 rfl rfl ?_
  refine r_iconst C dX1_workOut_10 ?_
  refine k_Ni C kn_X1_31 (fun sz => c_X11_isFrom l g 0 m 2 (by omega) (by omega) (by omega) sz) dX1_workOut_11 rfl rfl rfl ⟨rfl, rfl⟩ [] rfl rfl (fun _ => rfl) (ws' := fun u_ => [(h0, oB 6 [vi w, vi h, .ref h0r, .ref h0x, .ref h0y, vi n, vi m, vi c]), (h0r, aI g 11 f), (hd, oB 1 [.ref hdf, vi w, vi h]), (hdf, aI g 169 D2_2)]) (fun _ => rfl) (fun r_11 u_ p_11 => ?_)
  have p_11 : (r_11 = 1 ∧ 0 ≤ m ∧ m ≤ 2) ∨ (r_11 = 0 ∧ ¬ (0 ≤ m ∧ m ≤ 2)) := p_11
  refine r_if_eq C 24 dX1_workOut_14 rfl (by omega) (fun c_1 => ?_) (fun c_1 => ?_)
  · skip
    exact absurd hm (by omega)
  · skip
    refine r_aload_n C dX1_workOut_17 1 rfl ?_
    refine gf_X1_26 C dX1_workOut_18 0 rfl rfl ?_
    refine r_goto C 25 dX1_workOut_21 rfl ?_
    refine r_istore_n C (lv' := [(2, vi m), (0, .ref hd), (1, .ref h0)]) dX1_workOut_25 rfl rfl ?_
    refine r_gets1 C z1 (in_r20 (List.mem_of_getElem? (i := 21) rfl)) dX1_workOut_26 ?_
    refine r_iload_n C dX1_workOut_29 0 rfl ?_
    refine r_ti C t1 dX1_workOut_30 (by omega) (v := (sA m)) (stp1_eq (by omega)) ?_
    refine r_istore_n C (lv' := [(3, vi (sA m)), (2, vi m), (0, .ref hd), (1, .ref h0)]) dX1_workOut_31 rfl rfl ?_
    refine r_gets1 C z2 (in_r20 (List.mem_of_getElem? (i := 22) rfl)) dX1_workOut_32 ?_
    refine r_iload_n C dX1_workOut_35 1 rfl ?_
    refine r_ti C t2 dX1_workOut_36 (by omega) (v := (sB m)) (stp2_eq (by omega)) ?_
    refine r_istore C (lv' := [(4, vi (sB m)), (3, vi (sA m)), (2, vi m), (0, .ref hd), (1, .ref h0)]) dX1_workOut_37 rfl rfl ?_
    refine r_iconst C dX1_workOut_39 ?_
    refine r_istore C (lv' := [(5, vi 0), (4, vi (sB m)), (3, vi (sA m)), (2, vi m), (0, .ref hd), (1, .ref h0)]) dX1_workOut_40 rfl rfl ?_
    refine r_lv (lv' := [(0, .ref hd), (1, .ref h0), (3, vi (sA m)), (4, vi (sB m)), (5, vi 0)]) [4, 5, 2, 1, 0] rfl ?_
    refine r_loop (σ := Int × (Int → Int)) (fun z_ => (0 ≤ z_.1 ∧ z_.1 ≤ h) ∧ (FwI w h f m c z_.2 0 z_.1)) (fun z_ => h - z_.1) (fun z_ => [(h0, oB 6 [vi w, vi h, .ref h0r, .ref h0x, .ref h0y, vi n, vi m, vi c]), (h0r, aI g 11 f), (hd, oB 1 [.ref hdf, vi w, vi h]), (hdf, aI g 169 z_.2)]) (fun z_ => [(0, .ref hd), (1, .ref h0), (3, vi (sA m)), (4, vi (sB m)), (5, vi z_.1)]) (fun z_ hz => ?_) (fun z_ hz ih_42 => ?_) (((0, D2_2) : Int × (Int → Int))) ?_
    · obtain ⟨y, P⟩ := z_
      obtain ⟨hy, hP⟩ := hz
      have hy : 0 ≤ y ∧ y ≤ h := hy
      have hP : FwI w h f m c P 0 y := hP
      show (0 : Int) ≤ h - y
      omega
    rotate_left
    · show (0 ≤ 0 ∧ 0 ≤ h) ∧ (FwI w h f m c D2_2 0 0)
      exact ⟨(by omega), (p_2)⟩
    obtain ⟨y, P⟩ := z_
    obtain ⟨hy, hP⟩ := hz
    have hy : 0 ≤ y ∧ y ≤ h := hy
    have hP : FwI w h f m c P 0 y := hP
    refine r_at (ws' := [(h0, oB 6 [vi w, vi h, .ref h0r, .ref h0x, .ref h0y, vi n, vi m, vi c]), (h0r, aI g 11 f), (hd, oB 1 [.ref hdf, vi w, vi h]), (hdf, aI g 169 P)]) (lv' := [(0, .ref hd), (1, .ref h0), (3, vi (sA m)), (4, vi (sB m)), (5, vi y)]) rfl rfl ?_
    refine r_iload C dX1_workOut_42 4 rfl ?_
    refine r_aload_n C dX1_workOut_44 0 rfl ?_
    refine gf_X1_19 C dX1_workOut_45 2 rfl rfl ?_
    refine r_icmp_ge C 90 dX1_workOut_48 rfl (by omega) (fun c_2 => ?_) (fun c_2 => ?_)
    · skip
      refine r_aload_n C dX1_workOut_90 0 rfl ?_
      refine gf_X1_19 C dX1_workOut_91 2 rfl rfl ?_
      refine r_iconst C dX1_workOut_94 ?_
      refine r_isub C dX1_workOut_95 ?_
      refine r_istore C (lv' := [(5, vi (h - 1)), (0, .ref hd), (1, .ref h0), (3, vi (sA m)), (4, vi (sB m))]) dX1_workOut_96 rfl rfl ?_
      refine r_lv (lv' := [(0, .ref hd), (1, .ref h0), (3, vi (sA m)), (4, vi (sB m)), (5, vi (h - 1))]) [1, 2, 3, 4, 0] rfl ?_
      refine r_loop (σ := Int × (Int → Int)) (fun z_ => (-1 ≤ z_.1 ∧ z_.1 ≤ h - 1) ∧ (BwI w h f m c z_.2 (w - 1) z_.1)) (fun z_ => z_.1 + 1) (fun z_ => [(h0, oB 6 [vi w, vi h, .ref h0r, .ref h0x, .ref h0y, vi n, vi m, vi c]), (h0r, aI g 11 f), (hd, oB 1 [.ref hdf, vi w, vi h]), (hdf, aI g 169 z_.2)]) (fun z_ => [(0, .ref hd), (1, .ref h0), (3, vi (sA m)), (4, vi (sB m)), (5, vi z_.1)]) (fun z_ hz => ?_) (fun z_ hz ih_98 => ?_) (((h - 1, P) : Int × (Int → Int))) ?_
      · obtain ⟨v, P2⟩ := z_
        obtain ⟨hv, hP2⟩ := hz
        have hv : -1 ≤ v ∧ v ≤ h - 1 := hv
        have hP2 : BwI w h f m c P2 (w - 1) v := hP2
        show (0 : Int) ≤ v + 1
        omega
      rotate_left
      · show (-1 ≤ (h - 1) ∧ (h - 1) ≤ h - 1) ∧ (BwI w h f m c P (w - 1) (h - 1))
        exact ⟨(by omega), (Bw_start hm3 ((show y = h by omega) ▸ hP))⟩
      obtain ⟨v, P2⟩ := z_
      obtain ⟨hv, hP2⟩ := hz
      have hv : -1 ≤ v ∧ v ≤ h - 1 := hv
      have hP2 : BwI w h f m c P2 (w - 1) v := hP2
      refine r_at (ws' := [(h0, oB 6 [vi w, vi h, .ref h0r, .ref h0x, .ref h0y, vi n, vi m, vi c]), (h0r, aI g 11 f), (hd, oB 1 [.ref hdf, vi w, vi h]), (hdf, aI g 169 P2)]) (lv' := [(0, .ref hd), (1, .ref h0), (3, vi (sA m)), (4, vi (sB m)), (5, vi v)]) rfl rfl ?_
      refine r_iload C dX1_workOut_98 4 rfl ?_
      refine r_if_lt C 143 dX1_workOut_100 rfl (by omega) (fun c_3 => ?_) (fun c_3 => ?_)
      · skip
        exact e_v C P2 dX1_workOut_143 (show FLD w h f m c P2 ∧ ∀ k : Int, 0 ≤ k → k < 169 → 0 ≤ P2 k ∧ P2 k ≤ 99 from ⟨Bw_end (by omega) hm3 (by omega) hP2, LB_all hc.2 hP2.1⟩) rfl
      · skip
        refine r_aload_n C dX1_workOut_103 0 rfl ?_
        refine gf_X1_15 C dX1_workOut_104 2 rfl rfl ?_
        refine r_iconst C dX1_workOut_107 ?_
        refine r_isub C dX1_workOut_108 ?_
        refine r_istore C (lv' := [(6, vi (w - 1)), (0, .ref hd), (1, .ref h0), (3, vi (sA m)), (4, vi (sB m)), (5, vi v)]) dX1_workOut_109 rfl rfl ?_
        refine r_lv (lv' := [(0, .ref hd), (1, .ref h0), (3, vi (sA m)), (4, vi (sB m)), (5, vi v), (6, vi (w - 1))]) [1, 2, 3, 4, 5, 0] rfl ?_
        refine r_loop (σ := Int × (Int → Int)) (fun z_ => (-1 ≤ z_.1 ∧ z_.1 ≤ w - 1) ∧ (BwI w h f m c z_.2 z_.1 v)) (fun z_ => z_.1 + 1) (fun z_ => [(h0, oB 6 [vi w, vi h, .ref h0r, .ref h0x, .ref h0y, vi n, vi m, vi c]), (h0r, aI g 11 f), (hd, oB 1 [.ref hdf, vi w, vi h]), (hdf, aI g 169 z_.2)]) (fun z_ => [(0, .ref hd), (1, .ref h0), (3, vi (sA m)), (4, vi (sB m)), (5, vi v), (6, vi z_.1)]) (fun z_ hz => ?_) (fun z_ hz ih_111 => ?_) (((w - 1, P2) : Int × (Int → Int))) ?_
        · obtain ⟨u, P3⟩ := z_
          obtain ⟨hu, hP3⟩ := hz
          have hu : -1 ≤ u ∧ u ≤ w - 1 := hu
          have hP3 : BwI w h f m c P3 u v := hP3
          show (0 : Int) ≤ u + 1
          omega
        rotate_left
        · show (-1 ≤ (w - 1) ∧ (w - 1) ≤ w - 1) ∧ (BwI w h f m c P2 (w - 1) v)
          exact ⟨(by omega), (hP2)⟩
        obtain ⟨u, P3⟩ := z_
        obtain ⟨hu, hP3⟩ := hz
        have hu : -1 ≤ u ∧ u ≤ w - 1 := hu
        have hP3 : BwI w h f m c P3 u v := hP3
        refine r_at (ws' := [(h0, oB 6 [vi w, vi h, .ref h0r, .ref h0x, .ref h0y, vi n, vi m, vi c]), (h0r, aI g 11 f), (hd, oB 1 [.ref hdf, vi w, vi h]), (hdf, aI g 169 P3)]) (lv' := [(0, .ref hd), (1, .ref h0), (3, vi (sA m)), (4, vi (sB m)), (5, vi v), (6, vi u)]) rfl rfl ?_
        refine r_iload C dX1_workOut_111 5 rfl ?_
        refine r_if_lt C 137 dX1_workOut_113 rfl (by omega) (fun c_4 => ?_) (fun c_4 => ?_)
        · skip
          refine r_iinc C (lv' := [(5, vi (v + (-1))), (0, .ref hd), (1, .ref h0), (3, vi (sA m)), (4, vi (sB m)), (6, vi u)]) dX1_workOut_137 4 rfl rfl rfl ?_
          refine r_goto C 98 dX1_workOut_140 rfl ?_
          refine r_lv (lv' := [(0, .ref hd), (1, .ref h0), (3, vi (sA m)), (4, vi (sB m)), (5, vi (v + (-1)))]) [1, 2, 3, 4, 0] rfl ?_
          exact ih_98 (v + (-1), P3) (show (-1 ≤ (v + (-1)) ∧ (v + (-1)) ≤ h - 1) ∧ (BwI w h f m c P3 (w - 1) (v + (-1))) from ⟨(by omega), (Bw_row (by omega) hP3)⟩) (show (v + (-1)) + 1 < v + 1 from by omega)
        · skip
          refine r_aload_n C dX1_workOut_116 0 rfl ?_
          refine r_iload C dX1_workOut_117 5 rfl ?_
          refine r_iload C dX1_workOut_119 4 rfl ?_
          refine k_Si C ks_X1_41 (fun sz => c_X1_indexOf l g u v sz) dX1_workOut_121 rfl rfl rfl ⟨rfl, rfl⟩ [] rfl rfl (fun _ => rfl) (ws' := fun u_ => [(h0, oB 6 [vi w, vi h, .ref h0r, .ref h0x, .ref h0y, vi n, vi m, vi c]), (h0r, aI g 11 f), (hd, oB 1 [.ref hdf, vi w, vi h]), (hdf, aI g 169 P3)]) (fun _ => rfl) (fun r_121 u_ p_121 => ?_)
          have p_121 : r_121 = ix u v := p_121
          refine r_eq (y := (ix u v)) p_121 ?_
          refine r_iconst C dX1_workOut_124 ?_
          refine r_iload_n C dX1_workOut_125 2 rfl ?_
          refine r_iload C dX1_workOut_126 3 rfl ?_
          refine k_Vv C kv_X1_45 (fun sz => c_X1_stepTo l g hd hdf P3 w h (ix u v) 1 (sA m) (sB m) (by omega) (by unfold ix; omega) (by omega) (LB_all hc.2 hP3.1) sz) dX1_workOut_128 rfl rfl rfl ⟨rfl, rfl⟩ 2 1 rfl rfl rfl [2, 3] rfl rfl (fun _ => rfl) (ws' := fun u_ => [(h0, oB 6 [vi w, vi h, .ref h0r, .ref h0x, .ref h0y, vi n, vi m, vi c]), (h0r, aI g 11 f), (hd, oB 1 [.ref hdf, vi w, vi h]), (hdf, aI g 169 (zU P3 (ix u v) (stV (sA m) (sB m) P3 (ix u v) 1)))]) (fun _ => rfl) (fun u_ p_128 => ?_)
          refine r_iinc C (lv' := [(6, vi (u + (-1))), (0, .ref hd), (1, .ref h0), (3, vi (sA m)), (4, vi (sB m)), (5, vi v)]) dX1_workOut_131 5 rfl rfl rfl ?_
          refine r_goto C 111 dX1_workOut_134 rfl ?_
          refine r_lv (lv' := [(0, .ref hd), (1, .ref h0), (3, vi (sA m)), (4, vi (sB m)), (5, vi v), (6, vi (u + (-1)))]) [1, 2, 3, 4, 5, 0] rfl ?_
          exact ih_111 (u + (-1), zU P3 (ix u v) (stV (sA m) (sB m) P3 (ix u v) 1)) (show (-1 ≤ (u + (-1)) ∧ (u + (-1)) ≤ w - 1) ∧ (BwI w h f m c (zU P3 (ix u v) (stV (sA m) (sB m) P3 (ix u v) 1)) (u + (-1)) v) from ⟨(by omega), (Bw_step (by omega) hm3 (by omega) hP3)⟩) (show (u + (-1)) + 1 < u + 1 from by omega)
    · skip
      refine r_iconst C dX1_workOut_51 ?_
      refine r_istore C (lv' := [(6, vi 0), (0, .ref hd), (1, .ref h0), (3, vi (sA m)), (4, vi (sB m)), (5, vi y)]) dX1_workOut_52 rfl rfl ?_
      refine r_lv (lv' := [(0, .ref hd), (1, .ref h0), (3, vi (sA m)), (4, vi (sB m)), (5, vi y), (6, vi 0)]) [1, 2, 3, 4, 5, 0] rfl ?_
      refine r_loop (σ := Int × (Int → Int)) (fun z_ => (0 ≤ z_.1 ∧ z_.1 ≤ w) ∧ (FwI w h f m c z_.2 z_.1 y)) (fun z_ => w - z_.1) (fun z_ => [(h0, oB 6 [vi w, vi h, .ref h0r, .ref h0x, .ref h0y, vi n, vi m, vi c]), (h0r, aI g 11 f), (hd, oB 1 [.ref hdf, vi w, vi h]), (hdf, aI g 169 z_.2)]) (fun z_ => [(0, .ref hd), (1, .ref h0), (3, vi (sA m)), (4, vi (sB m)), (5, vi y), (6, vi z_.1)]) (fun z_ hz => ?_) (fun z_ hz ih_54 => ?_) (((0, P) : Int × (Int → Int))) ?_
      · obtain ⟨x, P1⟩ := z_
        obtain ⟨hx, hP1⟩ := hz
        have hx : 0 ≤ x ∧ x ≤ w := hx
        have hP1 : FwI w h f m c P1 x y := hP1
        show (0 : Int) ≤ w - x
        omega
      rotate_left
      · show (0 ≤ 0 ∧ 0 ≤ w) ∧ (FwI w h f m c P 0 y)
        exact ⟨(by omega), (hP)⟩
      obtain ⟨x, P1⟩ := z_
      obtain ⟨hx, hP1⟩ := hz
      have hx : 0 ≤ x ∧ x ≤ w := hx
      have hP1 : FwI w h f m c P1 x y := hP1
      refine r_at (ws' := [(h0, oB 6 [vi w, vi h, .ref h0r, .ref h0x, .ref h0y, vi n, vi m, vi c]), (h0r, aI g 11 f), (hd, oB 1 [.ref hdf, vi w, vi h]), (hdf, aI g 169 P1)]) (lv' := [(0, .ref hd), (1, .ref h0), (3, vi (sA m)), (4, vi (sB m)), (5, vi y), (6, vi x)]) rfl rfl ?_
      refine r_iload C dX1_workOut_54 5 rfl ?_
      refine r_aload_n C dX1_workOut_56 0 rfl ?_
      refine gf_X1_15 C dX1_workOut_57 2 rfl rfl ?_
      refine r_icmp_ge C 84 dX1_workOut_60 rfl (by omega) (fun c_5 => ?_) (fun c_5 => ?_)
      · skip
        refine r_iinc C (lv' := [(5, vi (y + 1)), (0, .ref hd), (1, .ref h0), (3, vi (sA m)), (4, vi (sB m)), (6, vi x)]) dX1_workOut_84 4 rfl rfl rfl ?_
        refine r_goto C 42 dX1_workOut_87 rfl ?_
        refine r_lv (lv' := [(0, .ref hd), (1, .ref h0), (3, vi (sA m)), (4, vi (sB m)), (5, vi (y + 1))]) [1, 2, 3, 4, 0] rfl ?_
        exact ih_42 (y + 1, P1) (show (0 ≤ (y + 1) ∧ (y + 1) ≤ h) ∧ (FwI w h f m c P1 0 (y + 1)) from ⟨(by omega), (Fw_row (by omega) hP1)⟩) (show h - (y + 1) < h - y from by omega)
      · skip
        refine r_aload_n C dX1_workOut_63 0 rfl ?_
        refine r_iload C dX1_workOut_64 5 rfl ?_
        refine r_iload C dX1_workOut_66 4 rfl ?_
        refine k_Si C ks_X1_41 (fun sz => c_X1_indexOf l g x y sz) dX1_workOut_68 rfl rfl rfl ⟨rfl, rfl⟩ [] rfl rfl (fun _ => rfl) (ws' := fun u_ => [(h0, oB 6 [vi w, vi h, .ref h0r, .ref h0x, .ref h0y, vi n, vi m, vi c]), (h0r, aI g 11 f), (hd, oB 1 [.ref hdf, vi w, vi h]), (hdf, aI g 169 P1)]) (fun _ => rfl) (fun r_68 u_ p_68 => ?_)
        have p_68 : r_68 = ix x y := p_68
        refine r_eq (y := (ix x y)) p_68 ?_
        refine r_iconst C dX1_workOut_71 ?_
        refine r_iload_n C dX1_workOut_72 2 rfl ?_
        refine r_iload C dX1_workOut_73 3 rfl ?_
        refine k_Vv C kv_X1_45 (fun sz => c_X1_stepTo l g hd hdf P1 w h (ix x y) (-1) (sA m) (sB m) (by omega) (by unfold ix; omega) (by omega) (LB_all hc.2 hP1.1) sz) dX1_workOut_75 rfl rfl rfl ⟨rfl, rfl⟩ 2 1 rfl rfl rfl [2, 3] rfl rfl (fun _ => rfl) (ws' := fun u_ => [(h0, oB 6 [vi w, vi h, .ref h0r, .ref h0x, .ref h0y, vi n, vi m, vi c]), (h0r, aI g 11 f), (hd, oB 1 [.ref hdf, vi w, vi h]), (hdf, aI g 169 (zU P1 (ix x y) (stV (sA m) (sB m) P1 (ix x y) (-1))))]) (fun _ => rfl) (fun u_ p_75 => ?_)
        refine r_iinc C (lv' := [(6, vi (x + 1)), (0, .ref hd), (1, .ref h0), (3, vi (sA m)), (4, vi (sB m)), (5, vi y)]) dX1_workOut_78 5 rfl rfl rfl ?_
        refine r_goto C 54 dX1_workOut_81 rfl ?_
        refine r_lv (lv' := [(0, .ref hd), (1, .ref h0), (3, vi (sA m)), (4, vi (sB m)), (5, vi y), (6, vi (x + 1))]) [1, 2, 3, 4, 5, 0] rfl ?_
        exact ih_54 (x + 1, zU P1 (ix x y) (stV (sA m) (sB m) P1 (ix x y) (-1))) (show (0 ≤ (x + 1) ∧ (x + 1) ≤ w) ∧ (FwI w h f m c (zU P1 (ix x y) (stV (sA m) (sB m) P1 (ix x y) (-1))) (x + 1) y) from ⟨(by omega), (Fw_step (by omega) hm3 (by omega) hP1)⟩) (show w - (x + 1) < w - x from by omega)
set_option maxHeartbeats 1000000 in
set_option maxRecDepth 100000 in
theorem c_X1_at (l : Launch) (g : Gx) (hd : Nat) (hdf : Nat) (D : Int → Int) (fw : Int) (fh : Int) (x : Int) (y : Int) (hw : 4 ≤ fw ∧ fw ≤ 11 ∧ 4 ≤ fh ∧ fh ≤ 11) (hx : -2147483648 ≤ x ∧ x ≤ 2147483647) (hy : -2147483648 ≤ y ∧ y ≤ 2147483647) (sz : Nat) : Met l yX1_at (.code yX1_at cX1_at 3 (some .int) :: wsL_law) { frames := 1, cells := 0, slots := 0, locals := 21 } (PR g [.ref hd, vi x, vi y] [(hd, oB 1 [.ref hdf, vi fw, vi fh]), (hdf, aI g 169 D)] sz) (PI (S := Unit) g (fun r u_ => (0 ≤ x ∧ x < fw ∧ 0 ≤ y ∧ y < fh ∧ r = D (ix x y)) ∨ (¬ (0 ≤ x ∧ x < fw ∧ 0 ≤ y ∧ y < fh) ∧ r = -4)) (fun u_ => [(hd, oB 1 [.ref hdf, vi fw, vi fh]), (hdf, aI g 169 D)]) [(hd, oB 1 [.ref hdf, vi fw, vi fh]), (hdf, aI g 169 D)] sz) 0 0 (va_A [(hd, oB 1 [.ref hdf, vi fw, vi fh]), (hdf, aI g 169 D)] sz) := by
  refine meet (own := RX1) rfl (plainFor_of_name (by decide +kernel)) rfl (fun p_ e_ s_ m_ args_ below_ meth_ c_ C hnm => ?_)
  refine r_at (ws' := [(hd, oB 1 [.ref hdf, vi fw, vi fh]), (hdf, aI g 169 D)]) (lv' := [(0, .ref hd), (1, vi x), (2, vi y)]) rfl rfl ?_
  refine r_iload_n C dX1_at_0 1 rfl ?_
  refine r_if_lt C 37 dX1_at_1 rfl (by omega) (fun c_1 => ?_) (fun c_1 => ?_)
  · skip
    refine r_bipush C dX1_at_37 rfl ?_
    exact e_i C () dX1_at_39 (show (0 ≤ x ∧ x < fw ∧ 0 ≤ y ∧ y < fh ∧ (-4) = D (ix x y)) ∨ (¬ (0 ≤ x ∧ x < fw ∧ 0 ≤ y ∧ y < fh) ∧ (-4) = -4) from by omega) rfl
  · skip
    refine r_iload_n C dX1_at_4 1 rfl ?_
    refine r_aload_n C dX1_at_5 0 rfl ?_
    refine gf_X1_15 C dX1_at_6 0 rfl rfl ?_
    refine r_icmp_ge C 37 dX1_at_9 rfl (by omega) (fun c_2 => ?_) (fun c_2 => ?_)
    · skip
      refine r_bipush C dX1_at_37 rfl ?_
      exact e_i C () dX1_at_39 (show (0 ≤ x ∧ x < fw ∧ 0 ≤ y ∧ y < fh ∧ (-4) = D (ix x y)) ∨ (¬ (0 ≤ x ∧ x < fw ∧ 0 ≤ y ∧ y < fh) ∧ (-4) = -4) from by omega) rfl
    · skip
      refine r_iload_n C dX1_at_12 2 rfl ?_
      refine r_if_lt C 37 dX1_at_13 rfl (by omega) (fun c_3 => ?_) (fun c_3 => ?_)
      · skip
        refine r_bipush C dX1_at_37 rfl ?_
        exact e_i C () dX1_at_39 (show (0 ≤ x ∧ x < fw ∧ 0 ≤ y ∧ y < fh ∧ (-4) = D (ix x y)) ∨ (¬ (0 ≤ x ∧ x < fw ∧ 0 ≤ y ∧ y < fh) ∧ (-4) = -4) from by omega) rfl
      · skip
        refine r_iload_n C dX1_at_16 2 rfl ?_
        refine r_aload_n C dX1_at_17 0 rfl ?_
        refine gf_X1_19 C dX1_at_18 0 rfl rfl ?_
        refine r_icmp_ge C 37 dX1_at_21 rfl (by omega) (fun c_4 => ?_) (fun c_4 => ?_)
        · skip
          refine r_bipush C dX1_at_37 rfl ?_
          exact e_i C () dX1_at_39 (show (0 ≤ x ∧ x < fw ∧ 0 ≤ y ∧ y < fh ∧ (-4) = D (ix x y)) ∨ (¬ (0 ≤ x ∧ x < fw ∧ 0 ≤ y ∧ y < fh) ∧ (-4) = -4) from by omega) rfl
        · skip
          refine r_aload_n C dX1_at_24 0 rfl ?_
          refine gf_X1_11 C dX1_at_25 0 rfl rfl ?_
          refine r_iload_n C dX1_at_28 1 rfl ?_
          refine r_iload_n C dX1_at_29 2 rfl ?_
          refine k_Si C ks_X1_41 (fun sz => c_X1_indexOf l g x y sz) dX1_at_30 rfl rfl rfl ⟨rfl, rfl⟩ [] rfl rfl (fun _ => rfl) (ws' := fun u_ => [(hd, oB 1 [.ref hdf, vi fw, vi fh]), (hdf, aI g 169 D)]) (fun _ => rfl) (fun r_30 u_ p_30 => ?_)
          have p_30 : r_30 = ix x y := p_30
          refine r_eq (y := (ix x y)) p_30 ?_
          refine r_iald C dX1_at_33 1 rfl rfl (by unfold ix; omega) ?_
          refine r_goto C 39 dX1_at_34 rfl ?_
          exact e_i C () dX1_at_39 (show (0 ≤ x ∧ x < fw ∧ 0 ≤ y ∧ y < fh ∧ (D (ix x y)) = D (ix x y)) ∨ (¬ (0 ≤ x ∧ x < fw ∧ 0 ≤ y ∧ y < fh) ∧ (D (ix x y)) = -4) from by omega) rfl
set_option maxHeartbeats 1000000 in
set_option maxRecDepth 100000 in
theorem c_X1_cellsSoFar (l : Launch) (g : Gx) (hd : Nat) (hdf : Nat) (D : Int → Int) (fw : Int) (fh : Int) (n : Int) (hw : 4 ≤ fw ∧ fw ≤ 11 ∧ 4 ≤ fh ∧ fh ≤ 11) (hn : 0 ≤ n ∧ n ≤ 99) (hD : ∀ k : Int, 0 ≤ k → k < 169 → 0 ≤ D k ∧ D k ≤ 99) (sz : Nat) : Met l yX1_cellsSoFar (.code yX1_cellsSoFar cX1_cellsSoFar 5 (some .int) :: wsL_law) { frames := 1, cells := 0, slots := 0, locals := 21 } (PR g [.ref hd, vi n] [(hd, oB 1 [.ref hdf, vi fw, vi fh]), (hdf, aI g 169 D)] sz) (PI (S := Unit) g (fun r u_ => r = sum2 fw fh (isn D n)) (fun u_ => [(hd, oB 1 [.ref hdf, vi fw, vi fh]), (hdf, aI g 169 D)]) [(hd, oB 1 [.ref hdf, vi fw, vi fh]), (hdf, aI g 169 D)] sz) 0 0 (va_A [(hd, oB 1 [.ref hdf, vi fw, vi fh]), (hdf, aI g 169 D)] sz) := by
  refine meet (own := RX1) rfl (plainFor_of_name (by decide +kernel)) rfl (fun p_ e_ s_ m_ args_ below_ meth_ c_ C hnm => ?_)
  refine r_at (ws' := [(hd, oB 1 [.ref hdf, vi fw, vi fh]), (hdf, aI g 169 D)]) (lv' := [(0, .ref hd), (1, vi n)]) rfl rfl ?_
  refine r_iconst C dX1_cellsSoFar_0 ?_
  refine r_istore_n C (lv' := [(2, vi 0), (0, .ref hd), (1, vi n)]) dX1_cellsSoFar_1 rfl rfl ?_
  refine r_iconst C dX1_cellsSoFar_2 ?_
  refine r_istore_n C (lv' := [(3, vi 0), (2, vi 0), (0, .ref hd), (1, vi n)]) dX1_cellsSoFar_3 rfl rfl ?_
  refine r_lv (lv' := [(0, .ref hd), (1, vi n), (2, vi 0), (3, vi 0)]) [2, 3, 1, 0] rfl ?_
  refine r_loop (σ := Int × Int) (fun z_ => (0 ≤ z_.1 ∧ z_.1 ≤ fh) ∧ (z_.2 = sI (fun v => sI (fun u => isn D n u v) fw) z_.1)) (fun z_ => fh - z_.1) (fun z_ => [(hd, oB 1 [.ref hdf, vi fw, vi fh]), (hdf, aI g 169 D)]) (fun z_ => [(0, .ref hd), (1, vi n), (2, vi z_.2), (3, vi z_.1)]) (fun z_ hz => ?_) (fun z_ hz ih_4 => ?_) (((0, 0) : Int × Int)) ?_
  · obtain ⟨y, a⟩ := z_
    obtain ⟨hy, ha⟩ := hz
    have hy : 0 ≤ y ∧ y ≤ fh := hy
    have ha : a = sI (fun v => sI (fun u => isn D n u v) fw) y := ha
    show (0 : Int) ≤ fh - y
    omega
  rotate_left
  · show (0 ≤ 0 ∧ 0 ≤ fh) ∧ (0 = sI (fun v => sI (fun u => isn D n u v) fw) 0)
    exact ⟨(by omega), (rfl)⟩
  obtain ⟨y, a⟩ := z_
  obtain ⟨hy, ha⟩ := hz
  have hy : 0 ≤ y ∧ y ≤ fh := hy
  have ha : a = sI (fun v => sI (fun u => isn D n u v) fw) y := ha
  refine r_at (ws' := [(hd, oB 1 [.ref hdf, vi fw, vi fh]), (hdf, aI g 169 D)]) (lv' := [(0, .ref hd), (1, vi n), (2, vi a), (3, vi y)]) rfl rfl ?_
  refine r_iload_n C dX1_cellsSoFar_4 3 rfl ?_
  refine r_aload_n C dX1_cellsSoFar_5 0 rfl ?_
  refine gf_X1_19 C dX1_cellsSoFar_6 0 rfl rfl ?_
  refine r_icmp_ge C 54 dX1_cellsSoFar_9 rfl (by omega) (fun c_1 => ?_) (fun c_1 => ?_)
  · skip
    refine r_iload_n C dX1_cellsSoFar_54 2 rfl ?_
    exact e_i C () dX1_cellsSoFar_55 (show a = sum2 fw fh (isn D n) from by unfold sum2; rw [show fh = y by omega]; exact ha) rfl
  · skip
    refine r_iconst C dX1_cellsSoFar_12 ?_
    refine r_istore C (lv' := [(4, vi 0), (0, .ref hd), (1, vi n), (2, vi a), (3, vi y)]) dX1_cellsSoFar_13 rfl rfl ?_
    refine r_lv (lv' := [(0, .ref hd), (1, vi n), (2, vi a), (3, vi y), (4, vi 0)]) [1, 2, 3, 4, 0] rfl ?_
    refine r_loop (σ := Int × Int) (fun z_ => (0 ≤ z_.1 ∧ z_.1 ≤ fw) ∧ (z_.2 = a + sI (fun u => isn D n u y) z_.1)) (fun z_ => fw - z_.1) (fun z_ => [(hd, oB 1 [.ref hdf, vi fw, vi fh]), (hdf, aI g 169 D)]) (fun z_ => [(0, .ref hd), (1, vi n), (2, vi z_.2), (3, vi y), (4, vi z_.1)]) (fun z_ hz => ?_) (fun z_ hz ih_15 => ?_) (((0, a) : Int × Int)) ?_
    · obtain ⟨x, b⟩ := z_
      obtain ⟨hx, hb⟩ := hz
      have hx : 0 ≤ x ∧ x ≤ fw := hx
      have hb : b = a + sI (fun u => isn D n u y) x := hb
      show (0 : Int) ≤ fw - x
      omega
    rotate_left
    · show (0 ≤ 0 ∧ 0 ≤ fw) ∧ (a = a + sI (fun u => isn D n u y) 0)
      exact ⟨(by omega), (by rw [sI_0]; omega)⟩
    obtain ⟨x, b⟩ := z_
    obtain ⟨hx, hb⟩ := hz
    have hx : 0 ≤ x ∧ x ≤ fw := hx
    have hb : b = a + sI (fun u => isn D n u y) x := hb
    refine r_at (ws' := [(hd, oB 1 [.ref hdf, vi fw, vi fh]), (hdf, aI g 169 D)]) (lv' := [(0, .ref hd), (1, vi n), (2, vi b), (3, vi y), (4, vi x)]) rfl rfl ?_
    refine r_iload C dX1_cellsSoFar_15 4 rfl ?_
    refine r_aload_n C dX1_cellsSoFar_17 0 rfl ?_
    refine gf_X1_15 C dX1_cellsSoFar_18 0 rfl rfl ?_
    refine r_icmp_ge C 48 dX1_cellsSoFar_21 rfl (by omega) (fun c_2 => ?_) (fun c_2 => ?_)
    · skip
      refine r_iinc C (lv' := [(3, vi (y + 1)), (0, .ref hd), (1, vi n), (2, vi b), (4, vi x)]) dX1_cellsSoFar_48 3 rfl rfl rfl ?_
      refine r_goto C 4 dX1_cellsSoFar_51 rfl ?_
      refine r_lv (lv' := [(0, .ref hd), (1, vi n), (2, vi b), (3, vi (y + 1))]) [1, 2, 3, 0] rfl ?_
      exact ih_4 (y + 1, b) (show (0 ≤ (y + 1) ∧ (y + 1) ≤ fh) ∧ (b = sI (fun v => sI (fun u => isn D n u v) fw) (y + 1)) from ⟨(by omega), (by rw [sI_s _ hy.1, hb, ← ha, show fw = x by omega])⟩) (show fh - (y + 1) < fh - y from by omega)
    · skip
      refine r_aload_n C dX1_cellsSoFar_24 0 rfl ?_
      refine gf_X1_11 C dX1_cellsSoFar_25 0 rfl rfl ?_
      refine r_iload C dX1_cellsSoFar_28 4 rfl ?_
      refine r_iload_n C dX1_cellsSoFar_30 3 rfl ?_
      refine k_Si C ks_X1_41 (fun sz => c_X1_indexOf l g x y sz) dX1_cellsSoFar_31 rfl rfl rfl ⟨rfl, rfl⟩ [] rfl rfl (fun _ => rfl) (ws' := fun u_ => [(hd, oB 1 [.ref hdf, vi fw, vi fh]), (hdf, aI g 169 D)]) (fun _ => rfl) (fun r_31 u_ p_31 => ?_)
      have p_31 : r_31 = ix x y := p_31
      refine r_eq (y := (ix x y)) p_31 ?_
      refine r_iald C dX1_cellsSoFar_34 1 rfl rfl (by unfold ix; omega) ?_
      have hDk := hD (ix x y) (by unfold ix; omega) (by unfold ix; omega)
      refine r_iload_n C dX1_cellsSoFar_35 1 rfl ?_
      refine r_icmp_ne C 42 dX1_cellsSoFar_36 rfl (by omega) (fun c_3 => ?_) (fun c_3 => ?_)
      · skip
        refine r_iinc C (lv' := [(4, vi (x + 1)), (0, .ref hd), (1, vi n), (2, vi b), (3, vi y)]) dX1_cellsSoFar_42 4 rfl rfl rfl ?_
        refine r_goto C 15 dX1_cellsSoFar_45 rfl ?_
        refine r_lv (lv' := [(0, .ref hd), (1, vi n), (2, vi b), (3, vi y), (4, vi (x + 1))]) [1, 2, 3, 4, 0] rfl ?_
        exact ih_15 (x + 1, b) (show (0 ≤ (x + 1) ∧ (x + 1) ≤ fw) ∧ (b = a + sI (fun u => isn D n u y) (x + 1)) from ⟨(by omega), (by rw [sI_s _ hx.1, hb]; unfold isn; rw [if_neg (by omega)]; omega)⟩) (show fw - (x + 1) < fw - x from by omega)
      · skip
        refine r_iinc C (lv' := [(2, vi (b + 1)), (0, .ref hd), (1, vi n), (3, vi y), (4, vi x)]) dX1_cellsSoFar_39 2 rfl rfl rfl ?_
        refine r_iinc C (lv' := [(4, vi (x + 1)), (2, vi (b + 1)), (0, .ref hd), (1, vi n), (3, vi y)]) dX1_cellsSoFar_42 4 rfl rfl rfl ?_
        refine r_goto C 15 dX1_cellsSoFar_45 rfl ?_
        refine r_lv (lv' := [(0, .ref hd), (1, vi n), (2, vi (b + 1)), (3, vi y), (4, vi (x + 1))]) [2, 3, 1, 4, 0] rfl ?_
        exact ih_15 (x + 1, b + 1) (show (0 ≤ (x + 1) ∧ (x + 1) ≤ fw) ∧ ((b + 1) = a + sI (fun u => isn D n u y) (x + 1)) from ⟨(by omega), (by rw [sI_s _ hx.1, hb]; unfold isn; rw [if_pos (by omega)]; omega)⟩) (show fw - (x + 1) < fw - x from by omega)
set_option maxHeartbeats 1000000 in
set_option maxRecDepth 100000 in
theorem c_X1_leastIn (l : Launch) (g : Gx) (hd : Nat) (hdf : Nat) (D : Int → Int) (fw : Int) (fh : Int) (lf : Int) (tp : Int) (rt : Int) (bt : Int) (hw : 4 ≤ fw ∧ fw ≤ 11 ∧ 4 ≤ fh ∧ fh ≤ 11) (hlf : -100 ≤ lf ∧ lf ≤ 100) (htp : -100 ≤ tp ∧ tp ≤ 100) (hrt : -100 ≤ rt ∧ rt ≤ 100) (hbt : -100 ≤ bt ∧ bt ≤ 100) (hD : ∀ k : Int, 0 ≤ k → k < 169 → 0 ≤ D k ∧ D k ≤ 99) (sz : Nat) : Met l yX1_leastIn (.code yX1_leastIn cX1_leastIn 9 (some .int) :: wsL_law) { frames := 1, cells := 0, slots := 0, locals := 21 } (PR g [.ref hd, vi lf, vi tp, vi rt, vi bt] [(hd, oB 1 [.ref hdf, vi fw, vi fh]), (hdf, aI g 169 D)] sz) (PI (S := Unit) g (fun r u_ => LSB D fw fh lf tp rt bt r) (fun u_ => [(hd, oB 1 [.ref hdf, vi fw, vi fh]), (hdf, aI g 169 D)]) [(hd, oB 1 [.ref hdf, vi fw, vi fh]), (hdf, aI g 169 D)] sz) 0 0 (va_A [(hd, oB 1 [.ref hdf, vi fw, vi fh]), (hdf, aI g 169 D)] sz) := by
  refine meet (own := RX1) rfl (plainFor_of_name (by decide +kernel)) rfl (fun p_ e_ s_ m_ args_ below_ meth_ c_ C hnm => ?_)
  refine r_at (ws' := [(hd, oB 1 [.ref hdf, vi fw, vi fh]), (hdf, aI g 169 D)]) (lv' := [(0, .ref hd), (1, vi lf), (2, vi tp), (3, vi rt), (4, vi bt)]) rfl rfl ?_
  refine r_bipush C dX1_leastIn_0 rfl ?_
  refine r_istore C (lv' := [(5, vi (-4)), (0, .ref hd), (1, vi lf), (2, vi tp), (3, vi rt), (4, vi bt)]) dX1_leastIn_2 rfl rfl ?_
  refine r_iload_n C dX1_leastIn_4 3 rfl ?_
  refine r_iconst C dX1_leastIn_5 ?_
  refine r_mmax C (in_r27 (List.mem_of_getElem? (i := 11) rfl)) dX1_leastIn_6 ⟨rfl, rfl, rfl, rfl⟩ (by omega) ?_
  refine r_istore C (lv' := [(6, vi (max tp 0)), (5, vi (-4)), (0, .ref hd), (1, vi lf), (2, vi tp), (3, vi rt), (4, vi bt)]) dX1_leastIn_9 rfl rfl ?_
  refine r_lv (lv' := [(0, .ref hd), (1, vi lf), (2, vi tp), (3, vi rt), (4, vi bt), (5, vi (-4)), (6, vi (max tp 0))]) [2, 3, 4, 5, 6, 1, 0] rfl ?_
  refine r_loop (σ := Int × Int) (fun z_ => (0 ≤ z_.1 ∧ tp ≤ z_.1 ∧ z_.1 ≤ 101) ∧ (z_.2 = -4 ∨ 0 ≤ z_.2 ∧ z_.2 ≤ 99) ∧ (LSP D fw fh lf tp rt bt z_.2 0 z_.1)) (fun z_ => 101 - z_.1) (fun z_ => [(hd, oB 1 [.ref hdf, vi fw, vi fh]), (hdf, aI g 169 D)]) (fun z_ => [(0, .ref hd), (1, vi lf), (2, vi tp), (3, vi rt), (4, vi bt), (5, vi z_.2), (6, vi z_.1)]) (fun z_ hz => ?_) (fun z_ hz ih_11 => ?_) (((max tp 0, -4) : Int × Int)) ?_
  · obtain ⟨y, a⟩ := z_
    obtain ⟨hy, ha99, ha⟩ := hz
    have hy : 0 ≤ y ∧ tp ≤ y ∧ y ≤ 101 := hy
    have ha99 : a = -4 ∨ 0 ≤ a ∧ a ≤ 99 := ha99
    have ha : LSP D fw fh lf tp rt bt a 0 y := ha
    show (0 : Int) ≤ 101 - y
    omega
  rotate_left
  · show (0 ≤ (max tp 0) ∧ tp ≤ (max tp 0) ∧ (max tp 0) ≤ 101) ∧ ((-4) = -4 ∨ 0 ≤ (-4) ∧ (-4) ≤ 99) ∧ (LSP D fw fh lf tp rt bt (-4) 0 (max tp 0))
    exact ⟨(by omega), (by omega), (Or.inl ⟨rfl, fun x v a1 a2 a3 a4 a5 a6 a7 a8 => by omega⟩)⟩
  obtain ⟨y, a⟩ := z_
  obtain ⟨hy, ha99, ha⟩ := hz
  have hy : 0 ≤ y ∧ tp ≤ y ∧ y ≤ 101 := hy
  have ha99 : a = -4 ∨ 0 ≤ a ∧ a ≤ 99 := ha99
  have ha : LSP D fw fh lf tp rt bt a 0 y := ha
  refine r_at (ws' := [(hd, oB 1 [.ref hdf, vi fw, vi fh]), (hdf, aI g 169 D)]) (lv' := [(0, .ref hd), (1, vi lf), (2, vi tp), (3, vi rt), (4, vi bt), (5, vi a), (6, vi y)]) rfl rfl ?_
  refine r_iload C dX1_leastIn_11 6 rfl ?_
  refine r_iload C dX1_leastIn_13 4 rfl ?_
  refine r_icmp_gt C 93 dX1_leastIn_15 rfl (by omega) (fun c_1 => ?_) (fun c_1 => ?_)
  · skip
    refine r_iload C dX1_leastIn_93 5 rfl ?_
    exact e_i C () dX1_leastIn_95 (show LSB D fw fh lf tp rt bt a from LSP_end (fun u v a1 a2 a3 a4 a5 a6 a7 a8 => by omega) ha) rfl
  · skip
    refine r_iload C dX1_leastIn_18 6 rfl ?_
    refine r_aload_n C dX1_leastIn_20 0 rfl ?_
    refine gf_X1_19 C dX1_leastIn_21 0 rfl rfl ?_
    refine r_icmp_ge C 93 dX1_leastIn_24 rfl (by omega) (fun c_2 => ?_) (fun c_2 => ?_)
    · skip
      refine r_iload C dX1_leastIn_93 5 rfl ?_
      exact e_i C () dX1_leastIn_95 (show LSB D fw fh lf tp rt bt a from LSP_end (fun u v a1 a2 a3 a4 a5 a6 a7 a8 => by omega) ha) rfl
    · skip
      refine r_iload_n C dX1_leastIn_27 1 rfl ?_
      refine r_iconst C dX1_leastIn_28 ?_
      refine r_mmax C (in_r27 (List.mem_of_getElem? (i := 11) rfl)) dX1_leastIn_29 ⟨rfl, rfl, rfl, rfl⟩ (by omega) ?_
      refine r_istore C (lv' := [(7, vi (max lf 0)), (0, .ref hd), (1, vi lf), (2, vi tp), (3, vi rt), (4, vi bt), (5, vi a), (6, vi y)]) dX1_leastIn_32 rfl rfl ?_
      refine r_lv (lv' := [(0, .ref hd), (1, vi lf), (2, vi tp), (3, vi rt), (4, vi bt), (5, vi a), (6, vi y), (7, vi (max lf 0))]) [1, 2, 3, 4, 5, 6, 7, 0] rfl ?_
      refine r_loop (σ := Int × Int) (fun z_ => (0 ≤ z_.1 ∧ lf ≤ z_.1 ∧ z_.1 ≤ 101) ∧ (z_.2 = -4 ∨ 0 ≤ z_.2 ∧ z_.2 ≤ 99) ∧ (LSP D fw fh lf tp rt bt z_.2 z_.1 y)) (fun z_ => 101 - z_.1) (fun z_ => [(hd, oB 1 [.ref hdf, vi fw, vi fh]), (hdf, aI g 169 D)]) (fun z_ => [(0, .ref hd), (1, vi lf), (2, vi tp), (3, vi rt), (4, vi bt), (5, vi z_.2), (6, vi y), (7, vi z_.1)]) (fun z_ hz => ?_) (fun z_ hz ih_34 => ?_) (((max lf 0, a) : Int × Int)) ?_
      · obtain ⟨x, b⟩ := z_
        obtain ⟨hx, hb99, hb⟩ := hz
        have hx : 0 ≤ x ∧ lf ≤ x ∧ x ≤ 101 := hx
        have hb99 : b = -4 ∨ 0 ≤ b ∧ b ≤ 99 := hb99
        have hb : LSP D fw fh lf tp rt bt b x y := hb
        show (0 : Int) ≤ 101 - x
        omega
      rotate_left
      · show (0 ≤ (max lf 0) ∧ lf ≤ (max lf 0) ∧ (max lf 0) ≤ 101) ∧ (a = -4 ∨ 0 ≤ a ∧ a ≤ 99) ∧ (LSP D fw fh lf tp rt bt a (max lf 0) y)
        exact ⟨(by omega), (by omega), (LSP_mv (fun u v a1 a2 a3 a4 a5 a6 a7 a8 a9 => by omega) ha)⟩
      obtain ⟨x, b⟩ := z_
      obtain ⟨hx, hb99, hb⟩ := hz
      have hx : 0 ≤ x ∧ lf ≤ x ∧ x ≤ 101 := hx
      have hb99 : b = -4 ∨ 0 ≤ b ∧ b ≤ 99 := hb99
      have hb : LSP D fw fh lf tp rt bt b x y := hb
      refine r_at (ws' := [(hd, oB 1 [.ref hdf, vi fw, vi fh]), (hdf, aI g 169 D)]) (lv' := [(0, .ref hd), (1, vi lf), (2, vi tp), (3, vi rt), (4, vi bt), (5, vi b), (6, vi y), (7, vi x)]) rfl rfl ?_
      refine r_iload C dX1_leastIn_34 7 rfl ?_
      refine r_iload_n C dX1_leastIn_36 3 rfl ?_
      refine r_icmp_gt C 87 dX1_leastIn_37 rfl (by omega) (fun c_3 => ?_) (fun c_3 => ?_)
      · skip
        refine r_iinc C (lv' := [(6, vi (y + 1)), (0, .ref hd), (1, vi lf), (2, vi tp), (3, vi rt), (4, vi bt), (5, vi b), (7, vi x)]) dX1_leastIn_87 6 rfl rfl rfl ?_
        refine r_goto C 11 dX1_leastIn_90 rfl ?_
        refine r_lv (lv' := [(0, .ref hd), (1, vi lf), (2, vi tp), (3, vi rt), (4, vi bt), (5, vi b), (6, vi (y + 1))]) [1, 2, 3, 4, 5, 6, 0] rfl ?_
        exact ih_11 (y + 1, b) (show (0 ≤ (y + 1) ∧ tp ≤ (y + 1) ∧ (y + 1) ≤ 101) ∧ (b = -4 ∨ 0 ≤ b ∧ b ≤ 99) ∧ (LSP D fw fh lf tp rt bt b 0 (y + 1)) from ⟨(by omega), (by omega), (LSP_mv (fun u v a1 a2 a3 a4 a5 a6 a7 a8 a9 => by omega) hb)⟩) (show 101 - (y + 1) < 101 - y from by omega)
      · skip
        refine r_iload C dX1_leastIn_40 7 rfl ?_
        refine r_aload_n C dX1_leastIn_42 0 rfl ?_
        refine gf_X1_15 C dX1_leastIn_43 0 rfl rfl ?_
        refine r_icmp_ge C 87 dX1_leastIn_46 rfl (by omega) (fun c_4 => ?_) (fun c_4 => ?_)
        · skip
          refine r_iinc C (lv' := [(6, vi (y + 1)), (0, .ref hd), (1, vi lf), (2, vi tp), (3, vi rt), (4, vi bt), (5, vi b), (7, vi x)]) dX1_leastIn_87 6 rfl rfl rfl ?_
          refine r_goto C 11 dX1_leastIn_90 rfl ?_
          refine r_lv (lv' := [(0, .ref hd), (1, vi lf), (2, vi tp), (3, vi rt), (4, vi bt), (5, vi b), (6, vi (y + 1))]) [1, 2, 3, 4, 5, 6, 0] rfl ?_
          exact ih_11 (y + 1, b) (show (0 ≤ (y + 1) ∧ tp ≤ (y + 1) ∧ (y + 1) ≤ 101) ∧ (b = -4 ∨ 0 ≤ b ∧ b ≤ 99) ∧ (LSP D fw fh lf tp rt bt b 0 (y + 1)) from ⟨(by omega), (by omega), (LSP_mv (fun u v a1 a2 a3 a4 a5 a6 a7 a8 a9 => by omega) hb)⟩) (show 101 - (y + 1) < 101 - y from by omega)
        · skip
          refine r_aload_n C dX1_leastIn_49 0 rfl ?_
          refine gf_X1_11 C dX1_leastIn_50 0 rfl rfl ?_
          refine r_iload C dX1_leastIn_53 7 rfl ?_
          refine r_iload C dX1_leastIn_55 6 rfl ?_
          refine k_Si C ks_X1_41 (fun sz => c_X1_indexOf l g x y sz) dX1_leastIn_57 rfl rfl rfl ⟨rfl, rfl⟩ [] rfl rfl (fun _ => rfl) (ws' := fun u_ => [(hd, oB 1 [.ref hdf, vi fw, vi fh]), (hdf, aI g 169 D)]) (fun _ => rfl) (fun r_57 u_ p_57 => ?_)
          have p_57 : r_57 = ix x y := p_57
          refine r_eq (y := (ix x y)) p_57 ?_
          refine r_iald C dX1_leastIn_60 1 rfl rfl (by unfold ix; omega) ?_
          refine r_top (fun fr efr => ?_)
          have hDk := hD (ix x y) (by unfold ix; omega) (by unfold ix; omega)
          refine r_istore C (lv' := [(8, vi fr), (0, .ref hd), (1, vi lf), (2, vi tp), (3, vi rt), (4, vi bt), (5, vi b), (6, vi y), (7, vi x)]) dX1_leastIn_61 rfl rfl ?_
          refine r_iload C dX1_leastIn_63 6 rfl ?_
          refine r_bipush C dX1_leastIn_65 rfl ?_
          refine r_icmp_eq C 77 dX1_leastIn_67 rfl (by omega) (fun c_5 => ?_) (fun c_5 => ?_)
          · skip
            refine r_iload C dX1_leastIn_77 0 rfl ?_
            refine r_istore C (lv' := [(5, vi fr), (8, vi fr), (0, .ref hd), (1, vi lf), (2, vi tp), (3, vi rt), (4, vi bt), (6, vi y), (7, vi x)]) dX1_leastIn_79 rfl rfl ?_
            refine r_iinc C (lv' := [(7, vi (x + 1)), (5, vi fr), (8, vi fr), (0, .ref hd), (1, vi lf), (2, vi tp), (3, vi rt), (4, vi bt), (6, vi y)]) dX1_leastIn_81 8 rfl rfl rfl ?_
            refine r_goto C 34 dX1_leastIn_84 rfl ?_
            refine r_lv (lv' := [(0, .ref hd), (1, vi lf), (2, vi tp), (3, vi rt), (4, vi bt), (5, vi fr), (6, vi y), (7, vi (x + 1))]) [3, 4, 5, 6, 7, 1, 8, 0] rfl ?_
            exact ih_34 (x + 1, fr) (show (0 ≤ (x + 1) ∧ lf ≤ (x + 1) ∧ (x + 1) ≤ 101) ∧ (fr = -4 ∨ 0 ≤ fr ∧ fr ≤ 99) ∧ (LSP D fw fh lf tp rt bt fr (x + 1) y) from ⟨(by omega), (by omega), (by rw [efr]; exact LSP_new (by omega) hD (by omega) (by omega) hb)⟩) (show 101 - (x + 1) < 101 - x from by omega)
          · skip
            refine r_iload C dX1_leastIn_70 0 rfl ?_
            refine r_iload C dX1_leastIn_72 6 rfl ?_
            refine r_icmp_ge C 81 dX1_leastIn_74 rfl (by omega) (fun c_6 => ?_) (fun c_6 => ?_)
            · skip
              refine r_iinc C (lv' := [(7, vi (x + 1)), (8, vi fr), (0, .ref hd), (1, vi lf), (2, vi tp), (3, vi rt), (4, vi bt), (5, vi b), (6, vi y)]) dX1_leastIn_81 8 rfl rfl rfl ?_
              refine r_goto C 34 dX1_leastIn_84 rfl ?_
              refine r_lv (lv' := [(0, .ref hd), (1, vi lf), (2, vi tp), (3, vi rt), (4, vi bt), (5, vi b), (6, vi y), (7, vi (x + 1))]) [2, 3, 4, 5, 6, 7, 8, 0] rfl ?_
              exact ih_34 (x + 1, b) (show (0 ≤ (x + 1) ∧ lf ≤ (x + 1) ∧ (x + 1) ≤ 101) ∧ (b = -4 ∨ 0 ≤ b ∧ b ≤ 99) ∧ (LSP D fw fh lf tp rt bt b (x + 1) y) from ⟨(by omega), (by omega), (LSP_old (by omega) hb)⟩) (show 101 - (x + 1) < 101 - x from by omega)
            · skip
              refine r_iload C dX1_leastIn_77 0 rfl ?_
              refine r_istore C (lv' := [(5, vi fr), (8, vi fr), (0, .ref hd), (1, vi lf), (2, vi tp), (3, vi rt), (4, vi bt), (6, vi y), (7, vi x)]) dX1_leastIn_79 rfl rfl ?_
              refine r_iinc C (lv' := [(7, vi (x + 1)), (5, vi fr), (8, vi fr), (0, .ref hd), (1, vi lf), (2, vi tp), (3, vi rt), (4, vi bt), (6, vi y)]) dX1_leastIn_81 8 rfl rfl rfl ?_
              refine r_goto C 34 dX1_leastIn_84 rfl ?_
              refine r_lv (lv' := [(0, .ref hd), (1, vi lf), (2, vi tp), (3, vi rt), (4, vi bt), (5, vi fr), (6, vi y), (7, vi (x + 1))]) [3, 4, 5, 6, 7, 1, 8, 0] rfl ?_
              exact ih_34 (x + 1, fr) (show (0 ≤ (x + 1) ∧ lf ≤ (x + 1) ∧ (x + 1) ≤ 101) ∧ (fr = -4 ∨ 0 ≤ fr ∧ fr ≤ 99) ∧ (LSP D fw fh lf tp rt bt fr (x + 1) y) from ⟨(by omega), (by omega), (by rw [efr]; exact LSP_new (by omega) hD (by omega) (by omega) hb)⟩) (show 101 - (x + 1) < 101 - x from by omega)
set_option maxHeartbeats 1000000 in
set_option maxRecDepth 100000 in
theorem c_X2_weigh (l : Launch) (g : Gx) (hf : Nat) (il : Int) (wo : Int) (wd : Int) (oe : Int) (hd : Nat) (hdf : Nat) (D : Int → Int) (fw : Int) (fh : Int) (hs : Nat) (hsx : Nat) (hsy : Nat) (P : Int → Int) (Q : Int → Int) (ns : Int) (lf : Int) (rt : Int) (tp : Int) (bt : Int) (x : Int) (y : Int) (hw : 4 ≤ fw ∧ fw ≤ 11 ∧ 4 ≤ fh ∧ fh ≤ 11) (hb : -30 ≤ lf ∧ lf ≤ 30 ∧ -30 ≤ rt ∧ rt ≤ 30 ∧ -30 ≤ tp ∧ tp ≤ 30 ∧ -30 ≤ bt ∧ bt ≤ 30) (hns : 1 ≤ ns ∧ ns ≤ 10) (hB : BX P Q ns lf rt tp bt) (hx : 0 ≤ x ∧ x ≤ 20 ∧ 0 ≤ y ∧ y ≤ 20) (hD : ∀ k : Int, 0 ≤ k → k < 169 → 0 ≤ D k ∧ D k ≤ 99) (sz : Nat) : Met l yX2_weigh (.code yX2_weigh cX2_weigh 7 (some .boolean) :: wsL_law) { frames := 1, cells := 0, slots := 0, locals := 24 } (PR g [.ref hf, .ref hd, .ref hs, vi x, vi y] [(hf, oB 2 [vi il, vi wo, vi wd, vi oe]), (hd, oB 1 [.ref hdf, vi fw, vi fh]), (hdf, aI g 169 D), (hs, oB 8 [.ref hsx, .ref hsy, vi ns, vi lf, vi rt, vi tp, vi bt]), (hsx, aI g 10 P), (hsy, aI g 10 Q)] sz) (PI (S := Int × Int × Int × Int) g (fun r u_ => (r = 1 ∧ FT P Q ns fw fh x y ∧ u_.1 = sI (frF D P Q x y) ns ∧ u_.2.1 = mxI (frF D P Q x y) ns ∧ u_.2.2.1 = wdI (frF D P Q x y) ns ∧ u_.2.2.2 = sI (is0 (frF D P Q x y)) ns) ∨ (r = 0 ∧ ¬ FT P Q ns fw fh x y)) (fun u_ => [(hf, oB 2 [vi u_.1, vi u_.2.1, vi u_.2.2.1, vi u_.2.2.2]), (hd, oB 1 [.ref hdf, vi fw, vi fh]), (hdf, aI g 169 D), (hs, oB 8 [.ref hsx, .ref hsy, vi ns, vi lf, vi rt, vi tp, vi bt]), (hsx, aI g 10 P), (hsy, aI g 10 Q)]) [(hf, oB 2 [vi il, vi wo, vi wd, vi oe]), (hd, oB 1 [.ref hdf, vi fw, vi fh]), (hdf, aI g 169 D), (hs, oB 8 [.ref hsx, .ref hsy, vi ns, vi lf, vi rt, vi tp, vi bt]), (hsx, aI g 10 P), (hsy, aI g 10 Q)] sz) 0 0 (va_A [(hf, oB 2 [vi il, vi wo, vi wd, vi oe]), (hd, oB 1 [.ref hdf, vi fw, vi fh]), (hdf, aI g 169 D), (hs, oB 8 [.ref hsx, .ref hsy, vi ns, vi lf, vi rt, vi tp, vi bt]), (hsx, aI g 10 P), (hsy, aI g 10 Q)] sz) := by
  refine meet (own := RX2) rfl (plainFor_of_name (by decide +kernel)) rfl (fun p_ e_ s_ m_ args_ below_ meth_ c_ C hnm => ?_)
  refine r_at (ws' := [(hf, oB 2 [vi il, vi wo, vi wd, vi oe]), (hd, oB 1 [.ref hdf, vi fw, vi fh]), (hdf, aI g 169 D), (hs, oB 8 [.ref hsx, .ref hsy, vi ns, vi lf, vi rt, vi tp, vi bt]), (hsx, aI g 10 P), (hsy, aI g 10 Q)]) (lv' := [(0, .ref hf), (1, .ref hd), (2, .ref hs), (3, vi x), (4, vi y)]) rfl rfl ?_
  refine r_aload_n C dX2_weigh_0 2 rfl ?_
  refine r_aload_n C dX2_weigh_1 1 rfl ?_
  refine gf_X2_22 C dX2_weigh_2 1 rfl rfl ?_
  refine r_aload_n C dX2_weigh_5 1 rfl ?_
  refine gf_X2_27 C dX2_weigh_6 1 rfl rfl ?_
  refine r_iload_n C dX2_weigh_9 3 rfl ?_
  refine r_iload C dX2_weigh_10 4 rfl ?_
  refine k_Vi C kv_X2_30 (fun sz => c_X9_isInside l g hs hsx hsy P Q ns lf rt tp bt fw fh x y hb hw (by omega) sz) dX2_weigh_12 rfl rfl rfl ⟨rfl, rfl⟩ 3 8 rfl rfl rfl [3, 4, 5] rfl rfl (fun _ => rfl) (ws' := fun u_ => [(hf, oB 2 [vi il, vi wo, vi wd, vi oe]), (hd, oB 1 [.ref hdf, vi fw, vi fh]), (hdf, aI g 169 D), (hs, oB 8 [.ref hsx, .ref hsy, vi ns, vi lf, vi rt, vi tp, vi bt]), (hsx, aI g 10 P), (hsy, aI g 10 Q)]) (fun _ => rfl) (fun r_12 u_ p_12 => ?_)
  have p_12 : (r_12 = 1 ∧ 0 ≤ x + lf ∧ x + rt < fw ∧ 0 ≤ y + tp ∧ y + bt < fh) ∨ (r_12 = 0 ∧ ¬ (0 ≤ x + lf ∧ x + rt < fw ∧ 0 ≤ y + tp ∧ y + bt < fh)) := p_12
  refine r_if_ne C 20 dX2_weigh_15 rfl (by omega) (fun c_1 => ?_) (fun c_1 => ?_)
  · skip
    have hft := (BX_FT (w := fw) (h := fh) (x := x) (y := y) hB).mp (by omega)
    refine r_aload_n C dX2_weigh_20 0 rfl ?_
    refine r_iconst C dX2_weigh_21 ?_
    refine pf_X2_7 C (ws' := [(hf, oB 2 [vi 0, vi wo, vi wd, vi oe]), (hd, oB 1 [.ref hdf, vi fw, vi fh]), (hdf, aI g 169 D), (hs, oB 8 [.ref hsx, .ref hsy, vi ns, vi lf, vi rt, vi tp, vi bt]), (hsx, aI g 10 P), (hsy, aI g 10 Q)]) dX2_weigh_22 0 rfl (Nat.le_of_ble_eq_true rfl) rfl ?_
    refine r_aload_n C dX2_weigh_25 0 rfl ?_
    refine r_iconst C dX2_weigh_26 ?_
    refine pf_X2_13 C (ws' := [(hf, oB 2 [vi 0, vi 0, vi wd, vi oe]), (hd, oB 1 [.ref hdf, vi fw, vi fh]), (hdf, aI g 169 D), (hs, oB 8 [.ref hsx, .ref hsy, vi ns, vi lf, vi rt, vi tp, vi bt]), (hsx, aI g 10 P), (hsy, aI g 10 Q)]) dX2_weigh_27 0 rfl (Nat.le_of_ble_eq_true rfl) rfl ?_
    refine r_aload_n C dX2_weigh_30 0 rfl ?_
    refine r_iconst C dX2_weigh_31 ?_
    refine pf_X2_16 C (ws' := [(hf, oB 2 [vi 0, vi 0, vi 0, vi oe]), (hd, oB 1 [.ref hdf, vi fw, vi fh]), (hdf, aI g 169 D), (hs, oB 8 [.ref hsx, .ref hsy, vi ns, vi lf, vi rt, vi tp, vi bt]), (hsx, aI g 10 P), (hsy, aI g 10 Q)]) dX2_weigh_32 0 rfl (Nat.le_of_ble_eq_true rfl) rfl ?_
    refine r_aload_n C dX2_weigh_35 0 rfl ?_
    refine r_iconst C dX2_weigh_36 ?_
    refine pf_X2_19 C (ws' := [(hf, oB 2 [vi 0, vi 0, vi 0, vi 0]), (hd, oB 1 [.ref hdf, vi fw, vi fh]), (hdf, aI g 169 D), (hs, oB 8 [.ref hsx, .ref hsy, vi ns, vi lf, vi rt, vi tp, vi bt]), (hsx, aI g 10 P), (hsy, aI g 10 Q)]) dX2_weigh_37 0 rfl (Nat.le_of_ble_eq_true rfl) rfl ?_
    refine r_iconst C dX2_weigh_40 ?_
    refine r_istore C (lv' := [(5, vi 0), (0, .ref hf), (1, .ref hd), (2, .ref hs), (3, vi x), (4, vi y)]) dX2_weigh_41 rfl rfl ?_
    refine r_lv (lv' := [(0, .ref hf), (1, .ref hd), (2, .ref hs), (3, vi x), (4, vi y), (5, vi 0)]) [1, 2, 3, 4, 5, 0] rfl ?_
    refine r_loop (σ := Int × Int × Int × Int × Int) (fun z_ => (0 ≤ z_.1 ∧ z_.1 ≤ ns) ∧ (0 ≤ z_.2.2.1 ∧ z_.2.2.1 ≤ 99) ∧ (z_.2.1 = sI (frF D P Q x y) z_.1) ∧ (z_.2.2.1 = mxI (frF D P Q x y) z_.1) ∧ (z_.2.2.2.1 = wdI (frF D P Q x y) z_.1) ∧ (z_.2.2.2.2 = sI (is0 (frF D P Q x y)) z_.1)) (fun z_ => ns - z_.1) (fun z_ => [(hf, oB 2 [vi z_.2.1, vi z_.2.2.1, vi z_.2.2.2.1, vi z_.2.2.2.2]), (hd, oB 1 [.ref hdf, vi fw, vi fh]), (hdf, aI g 169 D), (hs, oB 8 [.ref hsx, .ref hsy, vi ns, vi lf, vi rt, vi tp, vi bt]), (hsx, aI g 10 P), (hsy, aI g 10 Q)]) (fun z_ => [(0, .ref hf), (1, .ref hd), (2, .ref hs), (3, vi x), (4, vi y), (5, vi z_.1)]) (fun z_ hz => ?_) (fun z_ hz ih_43 => ?_) (((0, 0, 0, 0, 0) : Int × Int × Int × Int × Int)) ?_
    · obtain ⟨d, a, b, c, o⟩ := z_
      obtain ⟨hd0, hab, ha, hb2, hc2, ho⟩ := hz
      have hd0 : 0 ≤ d ∧ d ≤ ns := hd0
      have hab : 0 ≤ b ∧ b ≤ 99 := hab
      have ha : a = sI (frF D P Q x y) d := ha
      have hb2 : b = mxI (frF D P Q x y) d := hb2
      have hc2 : c = wdI (frF D P Q x y) d := hc2
      have ho : o = sI (is0 (frF D P Q x y)) d := ho
      show (0 : Int) ≤ ns - d
      omega
    rotate_left
    · show (0 ≤ 0 ∧ 0 ≤ ns) ∧ (0 ≤ 0 ∧ 0 ≤ 99) ∧ (0 = sI (frF D P Q x y) 0) ∧ (0 = mxI (frF D P Q x y) 0) ∧ (0 = wdI (frF D P Q x y) 0) ∧ (0 = sI (is0 (frF D P Q x y)) 0)
      exact ⟨(by omega), (by decide), (rfl), (rfl), (rfl), (rfl)⟩
    obtain ⟨d, a, b, c, o⟩ := z_
    obtain ⟨hd0, hab, ha, hb2, hc2, ho⟩ := hz
    have hd0 : 0 ≤ d ∧ d ≤ ns := hd0
    have hab : 0 ≤ b ∧ b ≤ 99 := hab
    have ha : a = sI (frF D P Q x y) d := ha
    have hb2 : b = mxI (frF D P Q x y) d := hb2
    have hc2 : c = wdI (frF D P Q x y) d := hc2
    have ho : o = sI (is0 (frF D P Q x y)) d := ho
    refine r_at (ws' := [(hf, oB 2 [vi a, vi b, vi c, vi o]), (hd, oB 1 [.ref hdf, vi fw, vi fh]), (hdf, aI g 169 D), (hs, oB 8 [.ref hsx, .ref hsy, vi ns, vi lf, vi rt, vi tp, vi bt]), (hsx, aI g 10 P), (hsy, aI g 10 Q)]) (lv' := [(0, .ref hf), (1, .ref hd), (2, .ref hs), (3, vi x), (4, vi y), (5, vi d)]) rfl rfl ?_
    refine r_iload C dX2_weigh_43 5 rfl ?_
    refine r_aload_n C dX2_weigh_45 2 rfl ?_
    refine gf_X2_36 C dX2_weigh_46 3 rfl rfl ?_
    refine r_icmp_ge C 134 dX2_weigh_49 rfl (by omega) (fun c_2 => ?_) (fun c_2 => ?_)
    · skip
      refine r_iconst C dX2_weigh_134 ?_
      exact e_z C (a, b, c, o) dX2_weigh_135 (by omega) (show (1 = 1 ∧ FT P Q ns fw fh x y ∧ a = sI (frF D P Q x y) ns ∧ b = mxI (frF D P Q x y) ns ∧ c = wdI (frF D P Q x y) ns ∧ o = sI (is0 (frF D P Q x y)) ns) ∨ (1 = 0 ∧ ¬ FT P Q ns fw fh x y) from Or.inl ⟨rfl, hft, by rw [ha, show d = ns by omega], by rw [hb2, show d = ns by omega], by rw [hc2, show d = ns by omega], by rw [ho, show d = ns by omega]⟩) rfl
    · skip
      have hfd := hft d (by omega) (by omega)
      refine r_aload_n C dX2_weigh_52 1 rfl ?_
      refine gf_X2_39 C dX2_weigh_53 1 rfl rfl ?_
      refine r_iload_n C dX2_weigh_56 3 rfl ?_
      refine r_aload_n C dX2_weigh_57 2 rfl ?_
      refine gf_X2_43 C dX2_weigh_58 3 rfl rfl ?_
      refine r_iload C dX2_weigh_61 5 rfl ?_
      refine r_iald C dX2_weigh_63 4 rfl rfl (by omega) ?_
      refine r_iadd C dX2_weigh_64 ?_
      refine r_iload C dX2_weigh_65 4 rfl ?_
      refine r_aload_n C dX2_weigh_67 2 rfl ?_
      refine gf_X2_46 C dX2_weigh_68 3 rfl rfl ?_
      refine r_iload C dX2_weigh_71 5 rfl ?_
      refine r_iald C dX2_weigh_73 5 rfl rfl (by omega) ?_
      refine r_iadd C dX2_weigh_74 ?_
      refine k_Si C ks_X2_49 (fun sz => c_X1_indexOf l g (x + (P d)) (y + (Q d)) sz) dX2_weigh_75 rfl rfl rfl ⟨rfl, rfl⟩ [] rfl rfl (fun _ => rfl) (ws' := fun u_ => [(hf, oB 2 [vi a, vi b, vi c, vi o]), (hd, oB 1 [.ref hdf, vi fw, vi fh]), (hdf, aI g 169 D), (hs, oB 8 [.ref hsx, .ref hsy, vi ns, vi lf, vi rt, vi tp, vi bt]), (hsx, aI g 10 P), (hsy, aI g 10 Q)]) (fun _ => rfl) (fun r_75 u_ p_75 => ?_)
      have p_75 : r_75 = ix (x + (P d)) (y + (Q d)) := p_75
      refine r_eq (y := (ix (x + P d) (y + Q d))) p_75 ?_
      refine r_iald C dX2_weigh_78 2 rfl rfl (by unfold ix; omega) ?_
      refine r_top (fun fr efr => ?_)
      have hfr : fr = frF D P Q x y d := efr
      have hDk := hD (ix (x + P d) (y + Q d)) (by unfold ix; omega) (by unfold ix; omega)
      have hf99 : 0 ≤ fr ∧ fr ≤ 99 := by omega
      refine r_istore C (lv' := [(6, vi fr), (0, .ref hf), (1, .ref hd), (2, .ref hs), (3, vi x), (4, vi y), (5, vi d)]) dX2_weigh_79 rfl rfl ?_
      refine r_aload_n C dX2_weigh_81 1 rfl ?_
      refine r_dup C dX2_weigh_82 rfl ?_
      refine gf_X2_7 C dX2_weigh_83 0 rfl rfl ?_
      refine r_iload C dX2_weigh_86 0 rfl ?_
      refine r_iadd C dX2_weigh_88 ?_
      refine pf_X2_7 C (ws' := [(hf, oB 2 [vi (a + fr), vi b, vi c, vi o]), (hd, oB 1 [.ref hdf, vi fw, vi fh]), (hdf, aI g 169 D), (hs, oB 8 [.ref hsx, .ref hsy, vi ns, vi lf, vi rt, vi tp, vi bt]), (hsx, aI g 10 P), (hsy, aI g 10 Q)]) dX2_weigh_89 0 rfl (Nat.le_of_ble_eq_true rfl) rfl ?_
      refine r_iload C dX2_weigh_92 0 rfl ?_
      refine r_if_ne C 107 dX2_weigh_94 rfl (by omega) (fun c_3 => ?_) (fun c_3 => ?_)
      · skip
        refine r_iload C dX2_weigh_107 0 rfl ?_
        refine r_aload_n C dX2_weigh_109 1 rfl ?_
        refine gf_X2_13 C dX2_weigh_110 0 rfl rfl ?_
        refine r_icmp_le C 128 dX2_weigh_113 rfl (by omega) (fun c_4 => ?_) (fun c_4 => ?_)
        · skip
          refine r_iinc C (lv' := [(5, vi (d + 1)), (6, vi fr), (0, .ref hf), (1, .ref hd), (2, .ref hs), (3, vi x), (4, vi y)]) dX2_weigh_128 6 rfl rfl rfl ?_
          refine r_goto C 43 dX2_weigh_131 rfl ?_
          refine r_lv (lv' := [(0, .ref hf), (1, .ref hd), (2, .ref hs), (3, vi x), (4, vi y), (5, vi (d + 1))]) [2, 3, 4, 5, 6, 0] rfl ?_
          exact ih_43 (d + 1, a + fr, b, c, o) (show (0 ≤ (d + 1) ∧ (d + 1) ≤ ns) ∧ (0 ≤ b ∧ b ≤ 99) ∧ ((a + fr) = sI (frF D P Q x y) (d + 1)) ∧ (b = mxI (frF D P Q x y) (d + 1)) ∧ (c = wdI (frF D P Q x y) (d + 1)) ∧ (o = sI (is0 (frF D P Q x y)) (d + 1)) from ⟨(by omega), (by omega), (by rw [sI_s _ hd0.1, ← ha, ← hfr]), (by rw [mxI_s _ hd0.1, ← hb2, ← hfr]; omega), (by rw [wdI_s _ hd0.1, ← hb2, ← hc2, ← hfr]; omega), (by rw [sI_s _ hd0.1, ← ho]; show _ = o + (if frF D P Q x y d = 0 then 1 else 0); rw [← hfr]; omega)⟩) (show ns - (d + 1) < ns - d from by omega)
        · skip
          refine r_aload_n C dX2_weigh_116 1 rfl ?_
          refine r_iload C dX2_weigh_117 0 rfl ?_
          refine pf_X2_13 C (ws' := [(hf, oB 2 [vi (a + fr), vi fr, vi c, vi o]), (hd, oB 1 [.ref hdf, vi fw, vi fh]), (hdf, aI g 169 D), (hs, oB 8 [.ref hsx, .ref hsy, vi ns, vi lf, vi rt, vi tp, vi bt]), (hsx, aI g 10 P), (hsy, aI g 10 Q)]) dX2_weigh_119 0 rfl (Nat.le_of_ble_eq_true rfl) rfl ?_
          refine r_aload_n C dX2_weigh_122 1 rfl ?_
          refine r_iload C dX2_weigh_123 6 rfl ?_
          refine pf_X2_16 C (ws' := [(hf, oB 2 [vi (a + fr), vi fr, vi d, vi o]), (hd, oB 1 [.ref hdf, vi fw, vi fh]), (hdf, aI g 169 D), (hs, oB 8 [.ref hsx, .ref hsy, vi ns, vi lf, vi rt, vi tp, vi bt]), (hsx, aI g 10 P), (hsy, aI g 10 Q)]) dX2_weigh_125 0 rfl (Nat.le_of_ble_eq_true rfl) rfl ?_
          refine r_iinc C (lv' := [(5, vi (d + 1)), (6, vi fr), (0, .ref hf), (1, .ref hd), (2, .ref hs), (3, vi x), (4, vi y)]) dX2_weigh_128 6 rfl rfl rfl ?_
          refine r_goto C 43 dX2_weigh_131 rfl ?_
          refine r_lv (lv' := [(0, .ref hf), (1, .ref hd), (2, .ref hs), (3, vi x), (4, vi y), (5, vi (d + 1))]) [2, 3, 4, 5, 6, 0] rfl ?_
          exact ih_43 (d + 1, a + fr, fr, d, o) (show (0 ≤ (d + 1) ∧ (d + 1) ≤ ns) ∧ (0 ≤ fr ∧ fr ≤ 99) ∧ ((a + fr) = sI (frF D P Q x y) (d + 1)) ∧ (fr = mxI (frF D P Q x y) (d + 1)) ∧ (d = wdI (frF D P Q x y) (d + 1)) ∧ (o = sI (is0 (frF D P Q x y)) (d + 1)) from ⟨(by omega), (by omega), (by rw [sI_s _ hd0.1, ← ha, ← hfr]), (by rw [mxI_s _ hd0.1, ← hb2, ← hfr]; omega), (by rw [wdI_s _ hd0.1, ← hb2, ← hc2, ← hfr]; omega), (by rw [sI_s _ hd0.1, ← ho]; show _ = o + (if frF D P Q x y d = 0 then 1 else 0); rw [← hfr]; omega)⟩) (show ns - (d + 1) < ns - d from by omega)
      · skip
        refine r_aload_n C dX2_weigh_97 1 rfl ?_
        refine r_dup C dX2_weigh_98 rfl ?_
        refine gf_X2_19 C dX2_weigh_99 0 rfl rfl ?_
        refine r_iconst C dX2_weigh_102 ?_
        refine r_iadd C dX2_weigh_103 ?_
        refine pf_X2_19 C (ws' := [(hf, oB 2 [vi (a + fr), vi b, vi c, vi (o + 1)]), (hd, oB 1 [.ref hdf, vi fw, vi fh]), (hdf, aI g 169 D), (hs, oB 8 [.ref hsx, .ref hsy, vi ns, vi lf, vi rt, vi tp, vi bt]), (hsx, aI g 10 P), (hsy, aI g 10 Q)]) dX2_weigh_104 0 rfl (Nat.le_of_ble_eq_true rfl) rfl ?_
        refine r_iload C dX2_weigh_107 0 rfl ?_
        refine r_aload_n C dX2_weigh_109 1 rfl ?_
        refine gf_X2_13 C dX2_weigh_110 0 rfl rfl ?_
        refine r_icmp_le C 128 dX2_weigh_113 rfl (by omega) (fun c_5 => ?_) (fun c_5 => ?_)
        · skip
          refine r_iinc C (lv' := [(5, vi (d + 1)), (6, vi fr), (0, .ref hf), (1, .ref hd), (2, .ref hs), (3, vi x), (4, vi y)]) dX2_weigh_128 6 rfl rfl rfl ?_
          refine r_goto C 43 dX2_weigh_131 rfl ?_
          refine r_lv (lv' := [(0, .ref hf), (1, .ref hd), (2, .ref hs), (3, vi x), (4, vi y), (5, vi (d + 1))]) [2, 3, 4, 5, 6, 0] rfl ?_
          exact ih_43 (d + 1, a + fr, b, c, o + 1) (show (0 ≤ (d + 1) ∧ (d + 1) ≤ ns) ∧ (0 ≤ b ∧ b ≤ 99) ∧ ((a + fr) = sI (frF D P Q x y) (d + 1)) ∧ (b = mxI (frF D P Q x y) (d + 1)) ∧ (c = wdI (frF D P Q x y) (d + 1)) ∧ ((o + 1) = sI (is0 (frF D P Q x y)) (d + 1)) from ⟨(by omega), (by omega), (by rw [sI_s _ hd0.1, ← ha, ← hfr]), (by rw [mxI_s _ hd0.1, ← hb2, ← hfr]; omega), (by rw [wdI_s _ hd0.1, ← hb2, ← hc2, ← hfr]; omega), (by rw [sI_s _ hd0.1, ← ho]; show _ = o + (if frF D P Q x y d = 0 then 1 else 0); rw [← hfr]; omega)⟩) (show ns - (d + 1) < ns - d from by omega)
        · skip
          refine r_aload_n C dX2_weigh_116 1 rfl ?_
          refine r_iload C dX2_weigh_117 0 rfl ?_
          refine pf_X2_13 C (ws' := [(hf, oB 2 [vi (a + fr), vi fr, vi c, vi (o + 1)]), (hd, oB 1 [.ref hdf, vi fw, vi fh]), (hdf, aI g 169 D), (hs, oB 8 [.ref hsx, .ref hsy, vi ns, vi lf, vi rt, vi tp, vi bt]), (hsx, aI g 10 P), (hsy, aI g 10 Q)]) dX2_weigh_119 0 rfl (Nat.le_of_ble_eq_true rfl) rfl ?_
          refine r_aload_n C dX2_weigh_122 1 rfl ?_
          refine r_iload C dX2_weigh_123 6 rfl ?_
          refine pf_X2_16 C (ws' := [(hf, oB 2 [vi (a + fr), vi fr, vi d, vi (o + 1)]), (hd, oB 1 [.ref hdf, vi fw, vi fh]), (hdf, aI g 169 D), (hs, oB 8 [.ref hsx, .ref hsy, vi ns, vi lf, vi rt, vi tp, vi bt]), (hsx, aI g 10 P), (hsy, aI g 10 Q)]) dX2_weigh_125 0 rfl (Nat.le_of_ble_eq_true rfl) rfl ?_
          refine r_iinc C (lv' := [(5, vi (d + 1)), (6, vi fr), (0, .ref hf), (1, .ref hd), (2, .ref hs), (3, vi x), (4, vi y)]) dX2_weigh_128 6 rfl rfl rfl ?_
          refine r_goto C 43 dX2_weigh_131 rfl ?_
          refine r_lv (lv' := [(0, .ref hf), (1, .ref hd), (2, .ref hs), (3, vi x), (4, vi y), (5, vi (d + 1))]) [2, 3, 4, 5, 6, 0] rfl ?_
          exact ih_43 (d + 1, a + fr, fr, d, o + 1) (show (0 ≤ (d + 1) ∧ (d + 1) ≤ ns) ∧ (0 ≤ fr ∧ fr ≤ 99) ∧ ((a + fr) = sI (frF D P Q x y) (d + 1)) ∧ (fr = mxI (frF D P Q x y) (d + 1)) ∧ (d = wdI (frF D P Q x y) (d + 1)) ∧ ((o + 1) = sI (is0 (frF D P Q x y)) (d + 1)) from ⟨(by omega), (by omega), (by rw [sI_s _ hd0.1, ← ha, ← hfr]), (by rw [mxI_s _ hd0.1, ← hb2, ← hfr]; omega), (by rw [wdI_s _ hd0.1, ← hb2, ← hc2, ← hfr]; omega), (by rw [sI_s _ hd0.1, ← ho]; show _ = o + (if frF D P Q x y d = 0 then 1 else 0); rw [← hfr]; omega)⟩) (show ns - (d + 1) < ns - d from by omega)
  · skip
    have hnf : ¬ FT P Q ns fw fh x y := fun z => by have := (BX_FT hB).mpr z; omega
    refine r_iconst C dX2_weigh_18 ?_
    exact e_z C (il, wo, wd, oe) dX2_weigh_19 (by omega) (show (0 = 1 ∧ FT P Q ns fw fh x y ∧ il = sI (frF D P Q x y) ns ∧ wo = mxI (frF D P Q x y) ns ∧ wd = wdI (frF D P Q x y) ns ∧ oe = sI (is0 (frF D P Q x y)) ns) ∨ (0 = 0 ∧ ¬ FT P Q ns fw fh x y) from Or.inr ⟨rfl, hnf⟩) rfl
set_option maxHeartbeats 1000000 in
set_option maxRecDepth 100000 in
theorem c_X10_isNear (l : Launch) (g : Gx) (h0 : Nat) (h0r : Nat) (h0x : Nat) (h0y : Nat) (w : Int) (h : Int) (n : Int) (m : Int) (c : Int) (hs : Nat) (hsx : Nat) (hsy : Nat) (P : Int → Int) (Q : Int → Int) (ns : Int) (lf : Int) (rt : Int) (tp : Int) (bt : Int) (dx : Int) (dy : Int) (rch : Int) (hm : 0 ≤ m ∧ m ≤ 2) (hns : 1 ≤ ns ∧ ns ≤ 10) (hP : ∀ k : Int, 0 ≤ k → k < ns → -30 ≤ P k ∧ P k ≤ 30) (hQ : ∀ k : Int, 0 ≤ k → k < ns → -30 ≤ Q k ∧ Q k ≤ 30) (hdx : -100 ≤ dx ∧ dx ≤ 100 ∧ -100 ≤ dy ∧ dy ≤ 100) (hr : 0 ≤ rch ∧ rch ≤ 3) (sz : Nat) : Met l yX10_isNear (.code yX10_isNear cX10_isNear 6 (some .boolean) :: wsL_law) { frames := 2, cells := 0, slots := 0, locals := 39 } (PR g [.ref h0, .ref hs, vi dx, vi dy, vi rch] [(h0, oB 6 [vi w, vi h, .ref h0r, .ref h0x, .ref h0y, vi n, vi m, vi c]), (hs, oB 8 [.ref hsx, .ref hsy, vi ns, vi lf, vi rt, vi tp, vi bt]), (hsx, aI g 10 P), (hsy, aI g 10 Q)] sz) (PI (S := Unit) g (fun r u_ => r = nrI m P Q ns dx dy rch) (fun u_ => [(h0, oB 6 [vi w, vi h, .ref h0r, .ref h0x, .ref h0y, vi n, vi m, vi c]), (hs, oB 8 [.ref hsx, .ref hsy, vi ns, vi lf, vi rt, vi tp, vi bt]), (hsx, aI g 10 P), (hsy, aI g 10 Q)]) [(h0, oB 6 [vi w, vi h, .ref h0r, .ref h0x, .ref h0y, vi n, vi m, vi c]), (hs, oB 8 [.ref hsx, .ref hsy, vi ns, vi lf, vi rt, vi tp, vi bt]), (hsx, aI g 10 P), (hsy, aI g 10 Q)] sz) 0 0 (va_A [(h0, oB 6 [vi w, vi h, .ref h0r, .ref h0x, .ref h0y, vi n, vi m, vi c]), (hs, oB 8 [.ref hsx, .ref hsy, vi ns, vi lf, vi rt, vi tp, vi bt]), (hsx, aI g 10 P), (hsy, aI g 10 Q)] sz) := by
  refine meet (own := RX10) rfl (plainFor_of_name (by decide +kernel)) rfl (fun p_ e_ s_ m_ args_ below_ meth_ c_ C hnm => ?_)
  refine r_at (ws' := [(h0, oB 6 [vi w, vi h, .ref h0r, .ref h0x, .ref h0y, vi n, vi m, vi c]), (hs, oB 8 [.ref hsx, .ref hsy, vi ns, vi lf, vi rt, vi tp, vi bt]), (hsx, aI g 10 P), (hsy, aI g 10 Q)]) (lv' := [(0, .ref h0), (1, .ref hs), (2, vi dx), (3, vi dy), (4, vi rch)]) rfl rfl ?_
  refine r_iconst C dX10_isNear_0 ?_
  refine r_istore C (lv' := [(5, vi 0), (0, .ref h0), (1, .ref hs), (2, vi dx), (3, vi dy), (4, vi rch)]) dX10_isNear_1 rfl rfl ?_
  refine r_lv (lv' := [(0, .ref h0), (1, .ref hs), (2, vi dx), (3, vi dy), (4, vi rch), (5, vi 0)]) [1, 2, 3, 4, 5, 0] rfl ?_
  refine r_loop (σ := Int) (fun z_ => (0 ≤ z_ ∧ z_ ≤ ns) ∧ (∀ d : Int, 0 ≤ d → d < z_ → ¬ dst m (dx - P d) (dy - Q d) ≤ rch)) (fun z_ => ns - z_) (fun z_ => [(h0, oB 6 [vi w, vi h, .ref h0r, .ref h0x, .ref h0y, vi n, vi m, vi c]), (hs, oB 8 [.ref hsx, .ref hsy, vi ns, vi lf, vi rt, vi tp, vi bt]), (hsx, aI g 10 P), (hsy, aI g 10 Q)]) (fun z_ => [(0, .ref h0), (1, .ref hs), (2, vi dx), (3, vi dy), (4, vi rch), (5, vi z_)]) (fun z_ hz => ?_) (fun z_ hz ih_3 => ?_) ((0 : Int)) ?_
  · obtain ⟨i, rfl⟩ : ∃ w_, w_ = z_ := ⟨_, rfl⟩
    obtain ⟨hi, ha⟩ := hz
    have hi : 0 ≤ i ∧ i ≤ ns := hi
    have ha : ∀ d : Int, 0 ≤ d → d < i → ¬ dst m (dx - P d) (dy - Q d) ≤ rch := ha
    show (0 : Int) ≤ ns - i
    omega
  rotate_left
  · show (0 ≤ 0 ∧ 0 ≤ ns) ∧ (∀ d : Int, 0 ≤ d → d < 0 → ¬ dst m (dx - P d) (dy - Q d) ≤ rch)
    exact ⟨(by omega), (fun d h0 h1 => by omega)⟩
  obtain ⟨i, rfl⟩ : ∃ w_, w_ = z_ := ⟨_, rfl⟩
  obtain ⟨hi, ha⟩ := hz
  have hi : 0 ≤ i ∧ i ≤ ns := hi
  have ha : ∀ d : Int, 0 ≤ d → d < i → ¬ dst m (dx - P d) (dy - Q d) ≤ rch := ha
  refine r_at (ws' := [(h0, oB 6 [vi w, vi h, .ref h0r, .ref h0x, .ref h0y, vi n, vi m, vi c]), (hs, oB 8 [.ref hsx, .ref hsy, vi ns, vi lf, vi rt, vi tp, vi bt]), (hsx, aI g 10 P), (hsy, aI g 10 Q)]) (lv' := [(0, .ref h0), (1, .ref hs), (2, vi dx), (3, vi dy), (4, vi rch), (5, vi i)]) rfl rfl ?_
  refine r_iload C dX10_isNear_3 5 rfl ?_
  refine r_aload_n C dX10_isNear_5 1 rfl ?_
  refine gf_X10_25 C dX10_isNear_6 1 rfl rfl ?_
  refine r_icmp_ge C 47 dX10_isNear_9 rfl (by omega) (fun c_1 => ?_) (fun c_1 => ?_)
  · skip
    refine r_iconst C dX10_isNear_47 ?_
    exact e_z C () dX10_isNear_48 (by omega) (show 0 = nrI m P Q ns dx dy rch from (nrI_0 (fun d h0 h1 => ha d h0 (by omega))).symm) rfl
  · skip
    refine r_aload_n C dX10_isNear_12 0 rfl ?_
    refine r_iload_n C dX10_isNear_13 2 rfl ?_
    refine r_aload_n C dX10_isNear_14 1 rfl ?_
    refine gf_X10_31 C dX10_isNear_15 1 rfl rfl ?_
    refine r_iload C dX10_isNear_18 5 rfl ?_
    refine r_iald C dX10_isNear_20 2 rfl rfl (by omega) ?_
    have b_20 := hP i (by omega) (by omega)
    refine r_isub C dX10_isNear_21 ?_
    refine r_iload_n C dX10_isNear_22 3 rfl ?_
    refine r_aload_n C dX10_isNear_23 1 rfl ?_
    refine gf_X10_34 C dX10_isNear_24 1 rfl rfl ?_
    refine r_iload C dX10_isNear_27 5 rfl ?_
    refine r_iald C dX10_isNear_29 3 rfl rfl (by omega) ?_
    have b_29 := hQ i (by omega) (by omega)
    refine r_isub C dX10_isNear_30 ?_
    refine k_Vi C kv_X10_37 (fun sz => c_X7_apart l g h0 h0r h0x h0y w h n m c (dx - (P i)) (dy - (Q i)) (by omega) (by omega) (by omega) sz) dX10_isNear_31 rfl rfl rfl ⟨rfl, rfl⟩ 0 6 rfl rfl rfl [0] rfl rfl (fun _ => rfl) (ws' := fun u_ => [(h0, oB 6 [vi w, vi h, .ref h0r, .ref h0x, .ref h0y, vi n, vi m, vi c]), (hs, oB 8 [.ref hsx, .ref hsy, vi ns, vi lf, vi rt, vi tp, vi bt]), (hsx, aI g 10 P), (hsy, aI g 10 Q)]) (fun _ => rfl) (fun r_31 u_ p_31 => ?_)
    have p_31 : r_31 = dst m (dx - (P i)) (dy - (Q i)) := p_31
    refine r_iload C dX10_isNear_34 4 rfl ?_
    refine r_icmp_gt C 41 dX10_isNear_36 rfl (by have := dst_nn m (dx - P i) (dy - Q i); have := dst_ub (show -200 ≤ dx - P i ∧ dx - P i ≤ 200 by omega) (show -200 ≤ dy - Q i ∧ dy - Q i ≤ 200 by omega) hm; omega) (fun c_2 => ?_) (fun c_2 => ?_)
    · skip
      refine r_iinc C (lv' := [(5, vi (i + 1)), (0, .ref h0), (1, .ref hs), (2, vi dx), (3, vi dy), (4, vi rch)]) dX10_isNear_41 5 rfl rfl rfl ?_
      refine r_goto C 3 dX10_isNear_44 rfl ?_
      refine r_lv (lv' := [(0, .ref h0), (1, .ref hs), (2, vi dx), (3, vi dy), (4, vi rch), (5, vi (i + 1))]) [1, 2, 3, 4, 5, 0] rfl ?_
      exact ih_3 (i + 1) (show (0 ≤ (i + 1) ∧ (i + 1) ≤ ns) ∧ (∀ d : Int, 0 ≤ d → d < (i + 1) → ¬ dst m (dx - P d) (dy - Q d) ≤ rch) from ⟨(by omega), (fun d h0 h1 => by
      rcases Int.lt_or_le d i with q | q
      · exact ha d h0 q
      · rw [show d = i by omega]; omega)⟩) (show ns - (i + 1) < ns - i from by omega)
    · skip
      refine r_iconst C dX10_isNear_39 ?_
      exact e_z C () dX10_isNear_40 (by omega) (show 1 = nrI m P Q ns dx dy rch from (nrI_1 hi.1 (by omega) (by omega)).symm) rfl
set_option maxHeartbeats 1000000 in
set_option maxRecDepth 100000 in
theorem c_X10_seek (l : Launch) (g : Gx) (ht : Nat) (htr : Nat) (T : Int → Int) (h0 : Nat) (h0r : Nat) (h0x : Nat) (h0y : Nat) (w : Int) (h : Int) (n : Int) (m : Int) (c : Int) (f : Int → Int) (hs : Nat) (hsx : Nat) (hsy : Nat) (P : Int → Int) (Q : Int → Int) (ns : Int) (lf : Int) (rt : Int) (tp : Int) (bt : Int) (x : Int) (y : Int) (rch : Int) (hw : 4 ≤ w ∧ w ≤ 11) (hh : 4 ≤ h ∧ h ≤ 11) (hf : ∀ k : Int, 0 ≤ k → k < 11 → 0 ≤ f k ∧ f k ≤ 2047) (hm : 0 ≤ m ∧ m ≤ 2) (hns : 1 ≤ ns ∧ ns ≤ 10) (hP : ∀ k : Int, 0 ≤ k → k < ns → -30 ≤ P k ∧ P k ≤ 30) (hQ : ∀ k : Int, 0 ≤ k → k < ns → -30 ≤ Q k ∧ Q k ≤ 30) (hx : 0 ≤ x ∧ x ≤ 20 ∧ 0 ≤ y ∧ y ≤ 20) (hr : 0 ≤ rch ∧ rch ≤ 3) (sz : Nat) : Met l yX10_seek (.code yX10_seek cX10_seek 9 (some .int) :: wsL_law) { frames := 3, cells := 0, slots := 0, locals := 64 } (PR g [.ref ht, .ref h0, .ref hs, vi x, vi y, vi rch] [(ht, oB 9 [.ref htr]), (htr, aI g 11 T), (h0, oB 6 [vi w, vi h, .ref h0r, .ref h0x, .ref h0y, vi n, vi m, vi c]), (h0r, aI g 11 f), (hs, oB 8 [.ref hsx, .ref hsy, vi ns, vi lf, vi rt, vi tp, vi bt]), (hsx, aI g 10 P), (hsy, aI g 10 Q)] sz) (PI (S := Unit) g (fun r u_ => r = sI (tdF (EE w h f) m P Q ns x y rch) 121) (fun u_ => [(ht, oB 9 [.ref htr]), (htr, aI g 11 (rowV (tdF (EE w h f) m P Q ns x y rch))), (h0, oB 6 [vi w, vi h, .ref h0r, .ref h0x, .ref h0y, vi n, vi m, vi c]), (h0r, aI g 11 f), (hs, oB 8 [.ref hsx, .ref hsy, vi ns, vi lf, vi rt, vi tp, vi bt]), (hsx, aI g 10 P), (hsy, aI g 10 Q)]) [(ht, oB 9 [.ref htr]), (htr, aI g 11 T), (h0, oB 6 [vi w, vi h, .ref h0r, .ref h0x, .ref h0y, vi n, vi m, vi c]), (h0r, aI g 11 f), (hs, oB 8 [.ref hsx, .ref hsy, vi ns, vi lf, vi rt, vi tp, vi bt]), (hsx, aI g 10 P), (hsy, aI g 10 Q)] sz) 0 0 (va_A [(ht, oB 9 [.ref htr]), (htr, aI g 11 T), (h0, oB 6 [vi w, vi h, .ref h0r, .ref h0x, .ref h0y, vi n, vi m, vi c]), (h0r, aI g 11 f), (hs, oB 8 [.ref hsx, .ref hsy, vi ns, vi lf, vi rt, vi tp, vi bt]), (hsx, aI g 10 P), (hsy, aI g 10 Q)] sz) := by
  refine meet (own := RX10) rfl (plainFor_of_name (by decide +kernel)) rfl (fun p_ e_ s_ m_ args_ below_ meth_ c_ C hnm => ?_)
  refine r_at (ws' := [(ht, oB 9 [.ref htr]), (htr, aI g 11 T), (h0, oB 6 [vi w, vi h, .ref h0r, .ref h0x, .ref h0y, vi n, vi m, vi c]), (h0r, aI g 11 f), (hs, oB 8 [.ref hsx, .ref hsy, vi ns, vi lf, vi rt, vi tp, vi bt]), (hsx, aI g 10 P), (hsy, aI g 10 Q)]) (lv' := [(0, .ref ht), (1, .ref h0), (2, .ref hs), (3, vi x), (4, vi y), (5, vi rch)]) rfl rfl ?_
  obtain ⟨G, hG⟩ : ∃ G, G = (tdF (EE w h f) m P Q ns x y rch) := ⟨_, rfl⟩
  have h01 : ∀ k : Int, G k = 0 ∨ G k = 1 := fun k => by rw [hG]; exact tdF_01 _ _ _ _ _ _ _ _ _
  refine r_iconst C dX10_seek_0 ?_
  refine r_istore C (lv' := [(6, vi 0), (0, .ref ht), (1, .ref h0), (2, .ref hs), (3, vi x), (4, vi y), (5, vi rch)]) dX10_seek_1 rfl rfl ?_
  refine r_iconst C dX10_seek_3 ?_
  refine r_istore C (lv' := [(7, vi 0), (6, vi 0), (0, .ref ht), (1, .ref h0), (2, .ref hs), (3, vi x), (4, vi y), (5, vi rch)]) dX10_seek_4 rfl rfl ?_
  refine r_lv (lv' := [(0, .ref ht), (1, .ref h0), (2, .ref hs), (3, vi x), (4, vi y), (5, vi rch), (6, vi 0), (7, vi 0)]) [2, 3, 4, 5, 6, 7, 1, 0] rfl ?_
  refine r_loop (σ := Int × Int × (Int → Int)) (fun z_ => (0 ≤ z_.1 ∧ z_.1 ≤ 11) ∧ (z_.2.1 = sI G (11 * z_.1)) ∧ (∀ k : Int, 0 ≤ k → k < z_.1 → z_.2.2 k = rowV G k)) (fun z_ => 11 - z_.1) (fun z_ => [(ht, oB 9 [.ref htr]), (htr, aI g 11 z_.2.2), (h0, oB 6 [vi w, vi h, .ref h0r, .ref h0x, .ref h0y, vi n, vi m, vi c]), (h0r, aI g 11 f), (hs, oB 8 [.ref hsx, .ref hsy, vi ns, vi lf, vi rt, vi tp, vi bt]), (hsx, aI g 10 P), (hsy, aI g 10 Q)]) (fun z_ => [(0, .ref ht), (1, .ref h0), (2, .ref hs), (3, vi x), (4, vi y), (5, vi rch), (6, vi z_.2.1), (7, vi z_.1)]) (fun z_ hz => ?_) (fun z_ hz ih_6 => ?_) (((0, 0, T) : Int × Int × (Int → Int))) ?_
  · obtain ⟨v, a, T1⟩ := z_
    obtain ⟨hv, ha, hT⟩ := hz
    have hv : 0 ≤ v ∧ v ≤ 11 := hv
    have ha : a = sI G (11 * v) := ha
    have hT : ∀ k : Int, 0 ≤ k → k < v → T1 k = rowV G k := hT
    show (0 : Int) ≤ 11 - v
    omega
  rotate_left
  · show (0 ≤ 0 ∧ 0 ≤ 11) ∧ (0 = sI G (11 * 0)) ∧ (∀ k : Int, 0 ≤ k → k < 0 → T k = rowV G k)
    exact ⟨(by decide), (rfl), (fun k h0 h1 => by omega)⟩
  obtain ⟨v, a, T1⟩ := z_
  obtain ⟨hv, ha, hT⟩ := hz
  have hv : 0 ≤ v ∧ v ≤ 11 := hv
  have ha : a = sI G (11 * v) := ha
  have hT : ∀ k : Int, 0 ≤ k → k < v → T1 k = rowV G k := hT
  refine r_at (ws' := [(ht, oB 9 [.ref htr]), (htr, aI g 11 T1), (h0, oB 6 [vi w, vi h, .ref h0r, .ref h0x, .ref h0y, vi n, vi m, vi c]), (h0r, aI g 11 f), (hs, oB 8 [.ref hsx, .ref hsy, vi ns, vi lf, vi rt, vi tp, vi bt]), (hsx, aI g 10 P), (hsy, aI g 10 Q)]) (lv' := [(0, .ref ht), (1, .ref h0), (2, .ref hs), (3, vi x), (4, vi y), (5, vi rch), (6, vi a), (7, vi v)]) rfl rfl ?_
  refine r_iload C dX10_seek_6 7 rfl ?_
  refine r_bipush C dX10_seek_8 rfl ?_
  refine r_icmp_ge C 91 dX10_seek_10 rfl (by omega) (fun c_1 => ?_) (fun c_1 => ?_)
  · skip
    have hv11 : v = 11 := by omega
    refine r_ext C (f' := (rowV (tdF (EE w h f) m P Q ns x y rch))) (ws' := [(ht, oB 9 [.ref htr]), (htr, aI g 11 (rowV (tdF (EE w h f) m P Q ns x y rch))), (h0, oB 6 [vi w, vi h, .ref h0r, .ref h0x, .ref h0y, vi n, vi m, vi c]), (h0r, aI g 11 f), (hs, oB 8 [.ref hsx, .ref hsy, vi ns, vi lf, vi rt, vi tp, vi bt]), (hsx, aI g 10 P), (hsy, aI g 10 Q)]) 1 rfl (fun k h0 h1 => by rw [← hG]; exact hT k h0 (by omega)) rfl ?_
    refine r_iload C dX10_seek_91 6 rfl ?_
    exact e_i C () dX10_seek_93 (show a = sI (tdF (EE w h f) m P Q ns x y rch) 121 from by rw [ha, hv11, ← hG]; rfl) rfl
  · skip
    refine r_aload_n C dX10_seek_13 0 rfl ?_
    refine gf_X10_9 C dX10_seek_14 0 rfl rfl ?_
    refine r_iload C dX10_seek_17 7 rfl ?_
    refine r_iconst C dX10_seek_19 ?_
    refine r_iast C (ws' := [(ht, oB 9 [.ref htr]), (htr, aI g 11 (zU T1 v 0)), (h0, oB 6 [vi w, vi h, .ref h0r, .ref h0x, .ref h0y, vi n, vi m, vi c]), (h0r, aI g 11 f), (hs, oB 8 [.ref hsx, .ref hsy, vi ns, vi lf, vi rt, vi tp, vi bt]), (hsx, aI g 10 P), (hsy, aI g 10 Q)]) dX10_seek_20 1 rfl rfl (by omega) rfl ?_
    refine r_iconst C dX10_seek_21 ?_
    refine r_istore C (lv' := [(8, vi 0), (0, .ref ht), (1, .ref h0), (2, .ref hs), (3, vi x), (4, vi y), (5, vi rch), (6, vi a), (7, vi v)]) dX10_seek_22 rfl rfl ?_
    refine r_lv (lv' := [(0, .ref ht), (1, .ref h0), (2, .ref hs), (3, vi x), (4, vi y), (5, vi rch), (6, vi a), (7, vi v), (8, vi 0)]) [1, 2, 3, 4, 5, 6, 7, 8, 0] rfl ?_
    refine r_loop (σ := Int × Int × (Int → Int)) (fun z_ => (0 ≤ z_.1 ∧ z_.1 ≤ 11) ∧ (z_.2.1 = sI G (11 * v + z_.1)) ∧ (∀ k : Int, 0 ≤ k → k < v → z_.2.2 k = rowV G k) ∧ (z_.2.2 v = rowP G v z_.1)) (fun z_ => 11 - z_.1) (fun z_ => [(ht, oB 9 [.ref htr]), (htr, aI g 11 z_.2.2), (h0, oB 6 [vi w, vi h, .ref h0r, .ref h0x, .ref h0y, vi n, vi m, vi c]), (h0r, aI g 11 f), (hs, oB 8 [.ref hsx, .ref hsy, vi ns, vi lf, vi rt, vi tp, vi bt]), (hsx, aI g 10 P), (hsy, aI g 10 Q)]) (fun z_ => [(0, .ref ht), (1, .ref h0), (2, .ref hs), (3, vi x), (4, vi y), (5, vi rch), (6, vi z_.2.1), (7, vi v), (8, vi z_.1)]) (fun z_ hz => ?_) (fun z_ hz ih_24 => ?_) (((0, a, zU T1 v 0) : Int × Int × (Int → Int))) ?_
    · obtain ⟨u, b, T2⟩ := z_
      obtain ⟨hu, hb, hT2, hT3⟩ := hz
      have hu : 0 ≤ u ∧ u ≤ 11 := hu
      have hb : b = sI G (11 * v + u) := hb
      have hT2 : ∀ k : Int, 0 ≤ k → k < v → T2 k = rowV G k := hT2
      have hT3 : T2 v = rowP G v u := hT3
      show (0 : Int) ≤ 11 - u
      omega
    rotate_left
    · show (0 ≤ 0 ∧ 0 ≤ 11) ∧ (a = sI G (11 * v + 0)) ∧ (∀ k : Int, 0 ≤ k → k < v → (zU T1 v 0) k = rowV G k) ∧ ((zU T1 v 0) v = rowP G v 0)
      exact ⟨(by decide), (by rw [Int.add_zero]; exact ha), (fun k h0 h1 => by rw [zU_ne _ _ (by omega)]; exact hT k h0 h1), (by rw [zU_eq]; rfl)⟩
    obtain ⟨u, b, T2⟩ := z_
    obtain ⟨hu, hb, hT2, hT3⟩ := hz
    have hu : 0 ≤ u ∧ u ≤ 11 := hu
    have hb : b = sI G (11 * v + u) := hb
    have hT2 : ∀ k : Int, 0 ≤ k → k < v → T2 k = rowV G k := hT2
    have hT3 : T2 v = rowP G v u := hT3
    refine r_at (ws' := [(ht, oB 9 [.ref htr]), (htr, aI g 11 T2), (h0, oB 6 [vi w, vi h, .ref h0r, .ref h0x, .ref h0y, vi n, vi m, vi c]), (h0r, aI g 11 f), (hs, oB 8 [.ref hsx, .ref hsy, vi ns, vi lf, vi rt, vi tp, vi bt]), (hsx, aI g 10 P), (hsy, aI g 10 Q)]) (lv' := [(0, .ref ht), (1, .ref h0), (2, .ref hs), (3, vi x), (4, vi y), (5, vi rch), (6, vi b), (7, vi v), (8, vi u)]) rfl rfl ?_
    refine r_iload C dX10_seek_24 8 rfl ?_
    refine r_bipush C dX10_seek_26 rfl ?_
    refine r_icmp_ge C 85 dX10_seek_28 rfl (by omega) (fun c_2 => ?_) (fun c_2 => ?_)
    · skip
      refine r_iinc C (lv' := [(7, vi (v + 1)), (0, .ref ht), (1, .ref h0), (2, .ref hs), (3, vi x), (4, vi y), (5, vi rch), (6, vi b), (8, vi u)]) dX10_seek_85 7 rfl rfl rfl ?_
      refine r_goto C 6 dX10_seek_88 rfl ?_
      refine r_lv (lv' := [(0, .ref ht), (1, .ref h0), (2, .ref hs), (3, vi x), (4, vi y), (5, vi rch), (6, vi b), (7, vi (v + 1))]) [1, 2, 3, 4, 5, 6, 7, 0] rfl ?_
      exact ih_6 (v + 1, b, T2) (show (0 ≤ (v + 1) ∧ (v + 1) ≤ 11) ∧ (b = sI G (11 * (v + 1))) ∧ (∀ k : Int, 0 ≤ k → k < (v + 1) → T2 k = rowV G k) from ⟨(by omega), (by rw [hb, show 11 * (v + 1) = 11 * v + u by omega]), (fun k h0 h1 => by
      rcases Int.lt_or_le k v with q | q
      · exact hT2 k h0 q
      · rw [show k = v by omega, hT3, show u = 11 by omega]; rfl)⟩) (show 11 - (v + 1) < 11 - v from by omega)
    · skip
      refine r_aload_n C dX10_seek_31 1 rfl ?_
      refine r_iload C dX10_seek_32 8 rfl ?_
      refine r_iload C dX10_seek_34 7 rfl ?_
      refine k_Vi C kv_X10_15 (fun sz => c_X7_edgeAt l g h0 h0r h0x h0y w h n m c f u v (by omega) (by omega) (by omega) (by omega) (by omega) sz) dX10_seek_36 rfl rfl rfl ⟨rfl, rfl⟩ 2 6 rfl rfl rfl [2, 3] rfl rfl (fun _ => rfl) (ws' := fun u_ => [(ht, oB 9 [.ref htr]), (htr, aI g 11 T2), (h0, oB 6 [vi w, vi h, .ref h0r, .ref h0x, .ref h0y, vi n, vi m, vi c]), (h0r, aI g 11 f), (hs, oB 8 [.ref hsx, .ref hsy, vi ns, vi lf, vi rt, vi tp, vi bt]), (hsx, aI g 10 P), (hsy, aI g 10 Q)]) (fun _ => rfl) (fun r_36 u_ p_36 => ?_)
      have p_36 : r_36 = eA w h f u v := p_36
      have hk1 : (11 * v + u) % 11 = u := by omega
      have hk2 : (11 * v + u) / 11 = v := by omega
      have hEE : EE w h f (11 * v + u) = eA w h f u v := by unfold EE; rw [hk1, hk2]
      have e01 := eA_01 w h f u v
      refine r_iconst C dX10_seek_39 ?_
      refine r_icmp_ne C 79 dX10_seek_40 rfl (by omega) (fun c_3 => ?_) (fun c_3 => ?_)
      · skip
        have hG0 : G (11 * v + u) = 0 := by rw [hG]; unfold tdF; rw [if_neg (by omega)]
        refine r_iinc C (lv' := [(8, vi (u + 1)), (0, .ref ht), (1, .ref h0), (2, .ref hs), (3, vi x), (4, vi y), (5, vi rch), (6, vi b), (7, vi v)]) dX10_seek_79 8 rfl rfl rfl ?_
        refine r_goto C 24 dX10_seek_82 rfl ?_
        refine r_lv (lv' := [(0, .ref ht), (1, .ref h0), (2, .ref hs), (3, vi x), (4, vi y), (5, vi rch), (6, vi b), (7, vi v), (8, vi (u + 1))]) [1, 2, 3, 4, 5, 6, 7, 8, 0] rfl ?_
        exact ih_24 (u + 1, b, T2) (show (0 ≤ (u + 1) ∧ (u + 1) ≤ 11) ∧ (b = sI G (11 * v + (u + 1))) ∧ (∀ k : Int, 0 ≤ k → k < v → T2 k = rowV G k) ∧ (T2 v = rowP G v (u + 1)) from ⟨(by omega), (by rw [← Int.add_assoc, sI_s _ (by omega), ← hb]; omega), (hT2), (by rw [rowP_no hu.1 (by omega)]; exact hT3)⟩) (show 11 - (u + 1) < 11 - u from by omega)
      · skip
        refine r_aload_n C dX10_seek_43 1 rfl ?_
        refine r_aload_n C dX10_seek_44 2 rfl ?_
        refine r_iload C dX10_seek_45 8 rfl ?_
        refine r_iload_n C dX10_seek_47 3 rfl ?_
        refine r_isub C dX10_seek_48 ?_
        refine r_iload C dX10_seek_49 7 rfl ?_
        refine r_iload C dX10_seek_51 4 rfl ?_
        refine r_isub C dX10_seek_53 ?_
        refine r_iload C dX10_seek_54 5 rfl ?_
        refine m_Si C ks_X10_21 (fun sz => c_X10_isNear l g h0 h0r h0x h0y w h n m c hs hsx hsy P Q ns lf rt tp bt (u - x) (v - y) rch (by omega) (by omega) (by omega) (by omega) (by omega) (by omega) sz) dX10_seek_56 rfl rfl rfl ⟨rfl, rfl⟩ [false, false, true, false, true, true, true] rfl (fun _ => rfl) (ws' := fun u_ => [(ht, oB 9 [.ref htr]), (htr, aI g 11 T2), (h0, oB 6 [vi w, vi h, .ref h0r, .ref h0x, .ref h0y, vi n, vi m, vi c]), (h0r, aI g 11 f), (hs, oB 8 [.ref hsx, .ref hsy, vi ns, vi lf, vi rt, vi tp, vi bt]), (hsx, aI g 10 P), (hsy, aI g 10 Q)]) (fun _ => rfl) (fun r_56 u_ p_56 => ?_)
        have p_56 : r_56 = nrI m P Q ns (u - x) (v - y) rch := p_56
        have hGn : EE w h f (11 * v + u) = 1 → G (11 * v + u) = nrI m P Q ns (u - x) (v - y) rch := fun z => by rw [hG]; unfold tdF; rw [if_pos z, hk1, hk2]
        have hn01 := nrN_01 m P Q (u - x) (v - y) rch ns.toNat
        have hn01 : nrI m P Q ns (u - x) (v - y) rch = 0 ∨ nrI m P Q ns (u - x) (v - y) rch = 1 := hn01
        refine r_if_eq C 79 dX10_seek_59 rfl (by omega) (fun c_4 => ?_) (fun c_4 => ?_)
        · skip
          have hG0 : G (11 * v + u) = 0 := by have := hGn (by omega); omega
          refine r_iinc C (lv' := [(8, vi (u + 1)), (0, .ref ht), (1, .ref h0), (2, .ref hs), (3, vi x), (4, vi y), (5, vi rch), (6, vi b), (7, vi v)]) dX10_seek_79 8 rfl rfl rfl ?_
          refine r_goto C 24 dX10_seek_82 rfl ?_
          refine r_lv (lv' := [(0, .ref ht), (1, .ref h0), (2, .ref hs), (3, vi x), (4, vi y), (5, vi rch), (6, vi b), (7, vi v), (8, vi (u + 1))]) [1, 2, 3, 4, 5, 6, 7, 8, 0] rfl ?_
          exact ih_24 (u + 1, b, T2) (show (0 ≤ (u + 1) ∧ (u + 1) ≤ 11) ∧ (b = sI G (11 * v + (u + 1))) ∧ (∀ k : Int, 0 ≤ k → k < v → T2 k = rowV G k) ∧ (T2 v = rowP G v (u + 1)) from ⟨(by omega), (by rw [← Int.add_assoc, sI_s _ (by omega), ← hb]; omega), (hT2), (by rw [rowP_no hu.1 (by omega)]; exact hT3)⟩) (show 11 - (u + 1) < 11 - u from by omega)
        · skip
          have hGk : G (11 * v + u) = 1 := by have := hGn (by omega); omega
          refine r_aload_n C dX10_seek_62 0 rfl ?_
          refine gf_X10_9 C dX10_seek_63 0 rfl rfl ?_
          refine r_iload C dX10_seek_66 7 rfl ?_
          refine r_dup2 C dX10_seek_68 rfl rfl ?_
          refine r_iald C dX10_seek_69 1 rfl rfl (by omega) ?_
          refine r_iconst C dX10_seek_70 ?_
          refine r_iload C dX10_seek_71 8 rfl ?_
          refine r_ishl C (z := (2 ^ (u).toNat)) dX10_seek_73 (z_shl (by omega)) ?_
          refine r_ior C (z := (orI (T2 v) (2 ^ u.toNat))) dX10_seek_74 (z_or (by rw [hT3]; have := rowP_b h01 v u.toNat; rw [Int.toNat_of_nonneg hu.1] at this; exact this.1) (two_nn _)) ?_
          refine r_iast C (ws' := [(ht, oB 9 [.ref htr]), (htr, aI g 11 (zU T2 v (orI (T2 v) (2 ^ u.toNat)))), (h0, oB 6 [vi w, vi h, .ref h0r, .ref h0x, .ref h0y, vi n, vi m, vi c]), (h0r, aI g 11 f), (hs, oB 8 [.ref hsx, .ref hsy, vi ns, vi lf, vi rt, vi tp, vi bt]), (hsx, aI g 10 P), (hsy, aI g 10 Q)]) dX10_seek_75 1 rfl rfl (by omega) rfl ?_
          refine r_iinc C (lv' := [(6, vi (b + 1)), (0, .ref ht), (1, .ref h0), (2, .ref hs), (3, vi x), (4, vi y), (5, vi rch), (7, vi v), (8, vi u)]) dX10_seek_76 6 rfl rfl rfl ?_
          refine r_iinc C (lv' := [(8, vi (u + 1)), (6, vi (b + 1)), (0, .ref ht), (1, .ref h0), (2, .ref hs), (3, vi x), (4, vi y), (5, vi rch), (7, vi v)]) dX10_seek_79 8 rfl rfl rfl ?_
          refine r_goto C 24 dX10_seek_82 rfl ?_
          refine r_lv (lv' := [(0, .ref ht), (1, .ref h0), (2, .ref hs), (3, vi x), (4, vi y), (5, vi rch), (6, vi (b + 1)), (7, vi v), (8, vi (u + 1))]) [2, 3, 4, 5, 6, 7, 1, 8, 0] rfl ?_
          exact ih_24 (u + 1, b + 1, zU T2 v (orI (T2 v) (2 ^ u.toNat))) (show (0 ≤ (u + 1) ∧ (u + 1) ≤ 11) ∧ ((b + 1) = sI G (11 * v + (u + 1))) ∧ (∀ k : Int, 0 ≤ k → k < v → (zU T2 v (orI (T2 v) (2 ^ u.toNat))) k = rowV G k) ∧ ((zU T2 v (orI (T2 v) (2 ^ u.toNat))) v = rowP G v (u + 1)) from ⟨(by omega), (by rw [← Int.add_assoc, sI_s _ (by omega), ← hb]; omega), (fun k h0 h1 => by rw [zU_ne _ _ (by omega)]; exact hT2 k h0 h1), (by rw [zU_eq, hT3]; exact rowP_or h01 hu.1 hGk)⟩) (show 11 - (u + 1) < 11 - u from by omega)
