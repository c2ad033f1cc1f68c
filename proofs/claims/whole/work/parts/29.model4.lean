set_option maxHeartbeats 1000000 in
set_option maxRecDepth 100000 in
theorem c_X12_laysRanks (l : Launch) (g : Gx) (hM : Nat) (wi : Int) (hi : Int) (mN : Nat) (mC : Nat) (cm : Int) (ca : Int) (mL : Nat) (sc : Int) (qu : Int) (fp : Int) (mT : Nat) (lm : Int) (nw : Int) (nh : Int) (nr : Int) (mF : Nat) (mR : Nat) (mD : Nat) (mA : Nat) (ii : Int) (wo : Int) (wd : Int) (oe : Int) (mK : Nat) (rm : Int) (mH : Nat) (cn : Int) (N : Int → Int) (Fa : Int → Int) (Kr : Int → Int) (hN : MOK wi hi N) (kFa : ∀ k : Int, 0 ≤ k → k < 121 → -2147483648 ≤ Fa k ∧ Fa k ≤ 2147483647) (sz : Nat) : Met l yX12_laysRanks (.code yX12_laysRanks cX12_laysRanks 6 none :: wsL_law) { frames := 4, cells := 0, slots := 0, locals := 99 } (PR g [.ref hM] [(hM, oB 11 [vi wi, vi hi, .ref mN, .ref mC, vi cm, vi ca, .ref mL, vi sc, vi qu, vi fp, .ref mT, vi lm, vi nw, vi nh, vi nr, .ref mF, .ref mR, .ref mD, .ref mA, vi ii, vi wo, vi wd, vi oe, .ref mK, vi rm, .ref mH, vi cn]), (mN, aI g 145 N), (mA, aI g 121 Fa), (mK, aI g 2904 Kr)] sz) (PV (S := Int × Int × Int × Int × (Int → Int) × (Int → Int) × Int) g (fun u_ => (∀ k : Int, 0 ≤ k → k < 121 → -2147483648 ≤ u_.2.2.2.2.1 k ∧ u_.2.2.2.2.1 k ≤ 2147483647) ∧ 0 ≤ u_.2.2.2.2.2.2 ∧ u_.2.2.2.2.2.2 ≤ 2904 ∧ HLD (RSN wi hi N) u_.2.2.2.2.2.1 u_.2.2.2.2.2.2) (fun u_ => [(hM, oB 11 [vi wi, vi hi, .ref mN, .ref mC, vi cm, vi ca, .ref mL, vi sc, vi qu, vi fp, .ref mT, vi lm, vi nw, vi nh, vi nr, .ref mF, .ref mR, .ref mD, .ref mA, vi u_.1, vi u_.2.1, vi u_.2.2.1, vi u_.2.2.2.1, .ref mK, vi u_.2.2.2.2.2.2, .ref mH, vi cn]), (mN, aI g 145 N), (mA, aI g 121 u_.2.2.2.2.1), (mK, aI g 2904 u_.2.2.2.2.2.1)]) [(hM, oB 11 [vi wi, vi hi, .ref mN, .ref mC, vi cm, vi ca, .ref mL, vi sc, vi qu, vi fp, .ref mT, vi lm, vi nw, vi nh, vi nr, .ref mF, .ref mR, .ref mD, .ref mA, vi ii, vi wo, vi wd, vi oe, .ref mK, vi rm, .ref mH, vi cn]), (mN, aI g 145 N), (mA, aI g 121 Fa), (mK, aI g 2904 Kr)] sz) 0 0 (va_A [(hM, oB 11 [vi wi, vi hi, .ref mN, .ref mC, vi cm, vi ca, .ref mL, vi sc, vi qu, vi fp, .ref mT, vi lm, vi nw, vi nh, vi nr, .ref mF, .ref mR, .ref mD, .ref mA, vi ii, vi wo, vi wd, vi oe, .ref mK, vi rm, .ref mH, vi cn]), (mN, aI g 145 N), (mA, aI g 121 Fa), (mK, aI g 2904 Kr)] sz) := by
  refine meet (own := RX12) rfl (plainFor_of_name (by decide +kernel)) rfl (fun p_ e_ s_ m_ args_ below_ meth_ c_ C hnm => ?_)
  refine r_at (ws' := [(hM, oB 11 [vi wi, vi hi, .ref mN, .ref mC, vi cm, vi ca, .ref mL, vi sc, vi qu, vi fp, .ref mT, vi lm, vi nw, vi nh, vi nr, .ref mF, .ref mR, .ref mD, .ref mA, vi ii, vi wo, vi wd, vi oe, .ref mK, vi rm, .ref mH, vi cn]), (mN, aI g 145 N), (mA, aI g 121 Fa), (mK, aI g 2904 Kr)]) (lv' := [(0, .ref hM)]) rfl rfl ?_
  obtain ⟨nW, nH, n1, nO, nn, nX, nY, nM, nC, nT⟩ := id hN
  refine r_aload_n C dX12_laysRanks_0 0 rfl ?_
  refine k_Vv C kv_X12_161 (fun sz => c_X12_laysFars l g hM wi hi mN mC cm ca mL sc qu fp mT lm nw nh nr mF mR mD mA ii wo wd oe mK rm mH cn N Fa hN kFa sz) dX12_laysRanks_1 rfl rfl rfl ⟨rfl, rfl⟩ 0 11 rfl rfl rfl [0, 1, 2] rfl rfl (fun _ => rfl) (ws' := fun u_ => [(hM, oB 11 [vi wi, vi hi, .ref mN, .ref mC, vi cm, vi ca, .ref mL, vi sc, vi qu, vi fp, .ref mT, vi lm, vi nw, vi nh, vi nr, .ref mF, .ref mR, .ref mD, .ref mA, vi ii, vi wo, vi wd, vi oe, .ref mK, vi rm, .ref mH, vi cn]), (mN, aI g 145 N), (mA, aI g 121 u_), (mK, aI g 2904 Kr)]) (fun _ => rfl) (fun u_ p_1 => ?_)
  obtain ⟨A2_1, rfl⟩ : ∃ w_, w_ = u_ := ⟨_, rfl⟩
  refine r_at (ws' := [(hM, oB 11 [vi wi, vi hi, .ref mN, .ref mC, vi cm, vi ca, .ref mL, vi sc, vi qu, vi fp, .ref mT, vi lm, vi nw, vi nh, vi nr, .ref mF, .ref mR, .ref mD, .ref mA, vi ii, vi wo, vi wd, vi oe, .ref mK, vi rm, .ref mH, vi cn]), (mN, aI g 145 N), (mA, aI g 121 A2_1), (mK, aI g 2904 Kr)]) (lv' := [(0, .ref hM)]) rfl rfl ?_
  have p_1 : FAM wi hi N A2_1 ∧ ∀ k : Int, 0 ≤ k → k < 121 → -2147483648 ≤ A2_1 k ∧ A2_1 k ≤ 2147483647 := p_1
  refine r_aload_n C dX12_laysRanks_4 0 rfl ?_
  refine r_iconst C dX12_laysRanks_5 ?_
  refine pf_X12_177 C (ws' := [(hM, oB 11 [vi wi, vi hi, .ref mN, .ref mC, vi cm, vi ca, .ref mL, vi sc, vi qu, vi fp, .ref mT, vi lm, vi nw, vi nh, vi nr, .ref mF, .ref mR, .ref mD, .ref mA, vi ii, vi wo, vi wd, vi oe, .ref mK, vi 0, .ref mH, vi cn]), (mN, aI g 145 N), (mA, aI g 121 A2_1), (mK, aI g 2904 Kr)]) dX12_laysRanks_6 0 rfl (Nat.le_of_ble_eq_true rfl) rfl ?_
  refine r_iconst C dX12_laysRanks_9 ?_
  refine r_istore_n C (lv' := [(1, vi 0), (0, .ref hM)]) dX12_laysRanks_10 rfl rfl ?_
  refine r_lv (lv' := [(0, .ref hM), (1, vi 0)]) [1, 0] rfl ?_
  refine r_loop (σ := Int × Int × Int × Int × Int × Int × (Int → Int)) (fun z_ => (0 ≤ z_.1 ∧ z_.1 ≤ 24) ∧ (0 ≤ z_.2.2.2.2.2.1 ∧ z_.2.2.2.2.2.1 ≤ 121 * z_.1) ∧ (HLD (RSK wi hi (FRr N) (XM N) (YM N) (N 141) z_.1 0) z_.2.2.2.2.2.2 z_.2.2.2.2.2.1)) (fun z_ => 24 - z_.1) (fun z_ => [(hM, oB 11 [vi wi, vi hi, .ref mN, .ref mC, vi cm, vi ca, .ref mL, vi sc, vi qu, vi fp, .ref mT, vi lm, vi nw, vi nh, vi nr, .ref mF, .ref mR, .ref mD, .ref mA, vi z_.2.1, vi z_.2.2.1, vi z_.2.2.2.1, vi z_.2.2.2.2.1, .ref mK, vi z_.2.2.2.2.2.1, .ref mH, vi cn]), (mN, aI g 145 N), (mA, aI g 121 A2_1), (mK, aI g 2904 z_.2.2.2.2.2.2)]) (fun z_ => [(0, .ref hM), (1, vi z_.1)]) (fun z_ hz => ?_) (fun z_ hz ih_11 => ?_) (((0, ii, wo, wd, oe, 0, Kr) : Int × Int × Int × Int × Int × Int × (Int → Int))) ?_
  · obtain ⟨way, i1, i2, i3, i4, m1, K1⟩ := z_
    obtain ⟨jw, jm, jH⟩ := hz
    have jw : 0 ≤ way ∧ way ≤ 24 := jw
    have jm : 0 ≤ m1 ∧ m1 ≤ 121 * way := jm
    have jH : HLD (RSK wi hi (FRr N) (XM N) (YM N) (N 141) way 0) K1 m1 := jH
    show (0 : Int) ≤ 24 - way
    omega
  rotate_left
  · show (0 ≤ 0 ∧ 0 ≤ 24) ∧ (0 ≤ 0 ∧ 0 ≤ 121 * 0) ∧ (HLD (RSK wi hi (FRr N) (XM N) (YM N) (N 141) 0 0) Kr 0)
    exact ⟨(by decide), (by decide), (HLD_0)⟩
  obtain ⟨way, i1, i2, i3, i4, m1, K1⟩ := z_
  obtain ⟨jw, jm, jH⟩ := hz
  have jw : 0 ≤ way ∧ way ≤ 24 := jw
  have jm : 0 ≤ m1 ∧ m1 ≤ 121 * way := jm
  have jH : HLD (RSK wi hi (FRr N) (XM N) (YM N) (N 141) way 0) K1 m1 := jH
  refine r_at (ws' := [(hM, oB 11 [vi wi, vi hi, .ref mN, .ref mC, vi cm, vi ca, .ref mL, vi sc, vi qu, vi fp, .ref mT, vi lm, vi nw, vi nh, vi nr, .ref mF, .ref mR, .ref mD, .ref mA, vi i1, vi i2, vi i3, vi i4, .ref mK, vi m1, .ref mH, vi cn]), (mN, aI g 145 N), (mA, aI g 121 A2_1), (mK, aI g 2904 K1)]) (lv' := [(0, .ref hM), (1, vi way)]) rfl rfl ?_
  refine r_iload_n C dX12_laysRanks_11 1 rfl ?_
  refine r_bipush C dX12_laysRanks_12 rfl ?_
  refine r_icmp_ge C 137 dX12_laysRanks_14 rfl (by omega) (fun c_1 => ?_) (fun c_1 => ?_)
  · skip
    exact e_v C (i1, i2, i3, i4, A2_1, K1, m1) dX12_laysRanks_137 (show (∀ k : Int, 0 ≤ k → k < 121 → -2147483648 ≤ A2_1 k ∧ A2_1 k ≤ 2147483647) ∧ 0 ≤ m1 ∧ m1 ≤ 2904 ∧ HLD (RSN wi hi N) K1 m1 from ⟨p_1.2, by omega, by omega, HLD_iff (fun r => RSK_end (by omega) r) jH⟩) rfl
  · skip
    refine r_iconst C dX12_laysRanks_17 ?_
    refine r_iload_n C dX12_laysRanks_18 1 rfl ?_
    refine r_bipush C dX12_laysRanks_19 rfl ?_
    refine r_idiv C dX12_laysRanks_21 (by omega) ?_
    refine r_iadd C dX12_laysRanks_22 ?_
    refine r_eq (y := (way / 8 + 2)) (by omega) ?_
    refine r_istore_n C (lv' := [(2, vi (way / 8 + 2)), (0, .ref hM), (1, vi way)]) dX12_laysRanks_23 rfl rfl ?_
    refine r_iload_n C dX12_laysRanks_24 2 rfl ?_
    refine r_iconst C dX12_laysRanks_25 ?_
    refine r_idiv C dX12_laysRanks_26 (by omega) ?_
    refine r_iconst C dX12_laysRanks_27 ?_
    refine r_irem C dX12_laysRanks_28 (by omega) ?_
    refine r_istore_n C (lv' := [(3, vi ((way / 2) % 4)), (2, vi (way / 8 + 2)), (0, .ref hM), (1, vi way)]) dX12_laysRanks_29 rfl rfl ?_
    refine r_iload_n C dX12_laysRanks_30 3 rfl ?_
    refine r_iconst C dX12_laysRanks_31 ?_
    refine r_irem C dX12_laysRanks_32 (by omega) ?_
    refine r_istore C (lv' := [(4, vi (way % 2)), (3, vi ((way / 2) % 4)), (2, vi (way / 8 + 2)), (0, .ref hM), (1, vi way)]) dX12_laysRanks_33 rfl rfl ?_
    refine r_iconst C dX12_laysRanks_35 ?_
    refine r_istore C (lv' := [(5, vi 0), (4, vi (way % 2)), (3, vi ((way / 2) % 4)), (2, vi (way / 8 + 2)), (0, .ref hM), (1, vi way)]) dX12_laysRanks_36 rfl rfl ?_
    refine r_lv (lv' := [(0, .ref hM), (1, vi way), (2, vi (way / 8 + 2)), (3, vi ((way / 2) % 4)), (4, vi (way % 2)), (5, vi 0)]) [4, 5, 3, 2, 1, 0] rfl ?_
    refine r_loop (σ := Int × Int × Int × Int × Int × Int × (Int → Int)) (fun z_ => (0 ≤ z_.1 ∧ z_.1 ≤ 121) ∧ (0 ≤ z_.2.2.2.2.2.1 ∧ z_.2.2.2.2.2.1 ≤ 121 * way + z_.1) ∧ (HLD (RSK wi hi (FRr N) (XM N) (YM N) (N 141) way z_.1) z_.2.2.2.2.2.2 z_.2.2.2.2.2.1)) (fun z_ => 121 - z_.1) (fun z_ => [(hM, oB 11 [vi wi, vi hi, .ref mN, .ref mC, vi cm, vi ca, .ref mL, vi sc, vi qu, vi fp, .ref mT, vi lm, vi nw, vi nh, vi nr, .ref mF, .ref mR, .ref mD, .ref mA, vi z_.2.1, vi z_.2.2.1, vi z_.2.2.2.1, vi z_.2.2.2.2.1, .ref mK, vi z_.2.2.2.2.2.1, .ref mH, vi cn]), (mN, aI g 145 N), (mA, aI g 121 A2_1), (mK, aI g 2904 z_.2.2.2.2.2.2)]) (fun z_ => [(0, .ref hM), (1, vi way), (2, vi (way / 8 + 2)), (3, vi ((way / 2) % 4)), (4, vi (way % 2)), (5, vi z_.1)]) (fun z_ hz => ?_) (fun z_ hz ih_38 => ?_) (((0, i1, i2, i3, i4, m1, K1) : Int × Int × Int × Int × Int × Int × (Int → Int))) ?_
    · obtain ⟨k, j1, j2, j3, j4, m3, K3⟩ := z_
      obtain ⟨jk, jn, jI⟩ := hz
      have jk : 0 ≤ k ∧ k ≤ 121 := jk
      have jn : 0 ≤ m3 ∧ m3 ≤ 121 * way + k := jn
      have jI : HLD (RSK wi hi (FRr N) (XM N) (YM N) (N 141) way k) K3 m3 := jI
      show (0 : Int) ≤ 121 - k
      omega
    rotate_left
    · show (0 ≤ 0 ∧ 0 ≤ 121) ∧ (0 ≤ m1 ∧ m1 ≤ 121 * way + 0) ∧ (HLD (RSK wi hi (FRr N) (XM N) (YM N) (N 141) way 0) K1 m1)
      exact ⟨(by decide), (by omega), (jH)⟩
    obtain ⟨k, j1, j2, j3, j4, m3, K3⟩ := z_
    obtain ⟨jk, jn, jI⟩ := hz
    have jk : 0 ≤ k ∧ k ≤ 121 := jk
    have jn : 0 ≤ m3 ∧ m3 ≤ 121 * way + k := jn
    have jI : HLD (RSK wi hi (FRr N) (XM N) (YM N) (N 141) way k) K3 m3 := jI
    refine r_at (ws' := [(hM, oB 11 [vi wi, vi hi, .ref mN, .ref mC, vi cm, vi ca, .ref mL, vi sc, vi qu, vi fp, .ref mT, vi lm, vi nw, vi nh, vi nr, .ref mF, .ref mR, .ref mD, .ref mA, vi j1, vi j2, vi j3, vi j4, .ref mK, vi m3, .ref mH, vi cn]), (mN, aI g 145 N), (mA, aI g 121 A2_1), (mK, aI g 2904 K3)]) (lv' := [(0, .ref hM), (1, vi way), (2, vi (way / 8 + 2)), (3, vi ((way / 2) % 4)), (4, vi (way % 2)), (5, vi k)]) rfl rfl ?_
    refine r_iload C dX12_laysRanks_38 5 rfl ?_
    refine r_bipush C dX12_laysRanks_40 rfl ?_
    refine r_icmp_ge C 131 dX12_laysRanks_42 rfl (by omega) (fun c_2 => ?_) (fun c_2 => ?_)
    · skip
      refine r_iinc C (lv' := [(1, vi (way + 1)), (0, .ref hM), (2, vi (way / 8 + 2)), (3, vi ((way / 2) % 4)), (4, vi (way % 2)), (5, vi k)]) dX12_laysRanks_131 1 rfl rfl rfl ?_
      refine r_goto C 11 dX12_laysRanks_134 rfl ?_
      refine r_lv (lv' := [(0, .ref hM), (1, vi (way + 1))]) [1, 0] rfl ?_
      exact ih_11 (way + 1, j1, j2, j3, j4, m3, K3) (show (0 ≤ (way + 1) ∧ (way + 1) ≤ 24) ∧ (0 ≤ m3 ∧ m3 ≤ 121 * (way + 1)) ∧ (HLD (RSK wi hi (FRr N) (XM N) (YM N) (N 141) (way + 1) 0) K3 m3) from ⟨(by omega), (by omega), (HLD_iff (fun r => RSK_way (by omega) r) jI)⟩) (show 24 - (way + 1) < 24 - way from by omega)
    · skip
      refine r_aload_n C dX12_laysRanks_45 0 rfl ?_
      refine r_iload C dX12_laysRanks_46 5 rfl ?_
      refine r_bipush C dX12_laysRanks_48 rfl ?_
      refine r_irem C dX12_laysRanks_50 (by omega) ?_
      refine r_iload C dX12_laysRanks_51 5 rfl ?_
      refine r_bipush C dX12_laysRanks_53 rfl ?_
      refine r_idiv C dX12_laysRanks_55 (by omega) ?_
      refine k_Vi C kv_X12_120 (fun sz => c_X12_isCell l g hM wi hi mN mC cm ca mL sc qu fp mT lm nw nh nr mF mR mD mA j1 j2 j3 j4 mK m3 mH cn (k % 11) (k / 11) nW nH (by omega) (by omega) sz) dX12_laysRanks_56 rfl rfl rfl ⟨rfl, rfl⟩ 0 11 rfl rfl rfl [0] rfl rfl (fun _ => rfl) (ws' := fun u_ => [(hM, oB 11 [vi wi, vi hi, .ref mN, .ref mC, vi cm, vi ca, .ref mL, vi sc, vi qu, vi fp, .ref mT, vi lm, vi nw, vi nh, vi nr, .ref mF, .ref mR, .ref mD, .ref mA, vi j1, vi j2, vi j3, vi j4, .ref mK, vi m3, .ref mH, vi cn]), (mN, aI g 145 N), (mA, aI g 121 A2_1), (mK, aI g 2904 K3)]) (fun _ => rfl) (fun r_56 u_ p_56 => ?_)
      have p_56 : (r_56 = 1 ∧ 0 ≤ (k % 11) ∧ (k % 11) < wi ∧ 0 ≤ (k / 11) ∧ (k / 11) < hi) ∨ (r_56 = 0 ∧ ¬ (0 ≤ (k % 11) ∧ (k % 11) < wi ∧ 0 ≤ (k / 11) ∧ (k / 11) < hi)) := p_56
      refine r_if_eq C 125 dX12_laysRanks_59 rfl (by omega) (fun c_3 => ?_) (fun c_3 => ?_)
      · skip
        have hnf : ¬ (k % 11 < wi ∧ k / 11 < hi ∧ FT (wX (XM N) (YM N) way) (wY (XM N) (YM N) way) (N 141) wi hi (k % 11) (k / 11)) := fun z => by have z1 := z.1; have z2 := z.2.1; clear z; omega
        refine r_iinc C (lv' := [(5, vi (k + 1)), (0, .ref hM), (1, vi way), (2, vi (way / 8 + 2)), (3, vi ((way / 2) % 4)), (4, vi (way % 2))]) dX12_laysRanks_125 5 rfl rfl rfl ?_
        refine r_goto C 38 dX12_laysRanks_128 rfl ?_
        refine r_lv (lv' := [(0, .ref hM), (1, vi way), (2, vi (way / 8 + 2)), (3, vi ((way / 2) % 4)), (4, vi (way % 2)), (5, vi (k + 1))]) [1, 2, 3, 4, 5, 0] rfl ?_
        exact ih_38 (k + 1, j1, j2, j3, j4, m3, K3) (show (0 ≤ (k + 1) ∧ (k + 1) ≤ 121) ∧ (0 ≤ m3 ∧ m3 ≤ 121 * way + (k + 1)) ∧ (HLD (RSK wi hi (FRr N) (XM N) (YM N) (N 141) way (k + 1)) K3 m3) from ⟨(by omega), (by omega), (HLD_iff (fun r => RSK_n hnf r) jI)⟩) (show 121 - (k + 1) < 121 - k from by omega)
      · skip
        refine r_aload_n C dX12_laysRanks_62 0 rfl ?_
        refine r_iload C dX12_laysRanks_63 5 rfl ?_
        refine r_bipush C dX12_laysRanks_65 rfl ?_
        refine r_irem C dX12_laysRanks_67 (by omega) ?_
        refine r_iload C dX12_laysRanks_68 5 rfl ?_
        refine r_bipush C dX12_laysRanks_70 rfl ?_
        refine r_idiv C dX12_laysRanks_72 (by omega) ?_
        refine r_iload_n C dX12_laysRanks_73 2 rfl ?_
        refine r_iload_n C dX12_laysRanks_74 3 rfl ?_
        refine r_iload C dX12_laysRanks_75 4 rfl ?_
        refine k_Vi C kv_X12_164 (fun sz => c_X12_looks l g hM wi hi mN mC cm ca mL sc qu fp mT lm nw nh nr mF mR mD mA j1 j2 j3 j4 mK m3 mH cn N A2_1 (k % 11) (k / 11) (way / 8 + 2) ((way / 2) % 4) (way % 2) hN p_1.2 (by omega) (by omega) (by omega) (by omega) sz) dX12_laysRanks_77 rfl rfl rfl ⟨rfl, rfl⟩ 0 11 rfl rfl rfl [0, 1, 2] rfl rfl (fun _ => rfl) (ws' := fun u_ => [(hM, oB 11 [vi wi, vi hi, .ref mN, .ref mC, vi cm, vi ca, .ref mL, vi sc, vi qu, vi fp, .ref mT, vi lm, vi nw, vi nh, vi nr, .ref mF, .ref mR, .ref mD, .ref mA, vi u_.1, vi u_.2.1, vi u_.2.2.1, vi u_.2.2.2, .ref mK, vi m3, .ref mH, vi cn]), (mN, aI g 145 N), (mA, aI g 121 A2_1), (mK, aI g 2904 K3)]) (fun _ => rfl) (fun r_77 u_ p_77 => ?_)
        obtain ⟨ii2_77, wo2_77, wd2_77, oe2_77⟩ := u_
        refine r_at (ws' := [(hM, oB 11 [vi wi, vi hi, .ref mN, .ref mC, vi cm, vi ca, .ref mL, vi sc, vi qu, vi fp, .ref mT, vi lm, vi nw, vi nh, vi nr, .ref mF, .ref mR, .ref mD, .ref mA, vi ii2_77, vi wo2_77, vi wd2_77, vi oe2_77, .ref mK, vi m3, .ref mH, vi cn]), (mN, aI g 145 N), (mA, aI g 121 A2_1), (mK, aI g 2904 K3)]) (lv' := [(0, .ref hM), (1, vi way), (2, vi (way / 8 + 2)), (3, vi ((way / 2) % 4)), (4, vi (way % 2)), (5, vi k)]) rfl rfl ?_
        have p_77 : (r_77 = 1 ∧ FT (LXM N (way / 8 + 2) ((way / 2) % 4) (way % 2)) (LYM N (way / 8 + 2) ((way / 2) % 4) (way % 2)) (N 141) wi hi (k % 11) (k / 11) ∧ ii2_77 = sI (gFM A2_1 (LXM N (way / 8 + 2) ((way / 2) % 4) (way % 2)) (LYM N (way / 8 + 2) ((way / 2) % 4) (way % 2)) (k % 11) (k / 11)) (N 141) ∧ wo2_77 = mxM (gFM A2_1 (LXM N (way / 8 + 2) ((way / 2) % 4) (way % 2)) (LYM N (way / 8 + 2) ((way / 2) % 4) (way % 2)) (k % 11) (k / 11)) (N 141).toNat ∧ wd2_77 = wdM (gFM A2_1 (LXM N (way / 8 + 2) ((way / 2) % 4) (way % 2)) (LYM N (way / 8 + 2) ((way / 2) % 4) (way % 2)) (k % 11) (k / 11)) j3 (N 141).toNat ∧ oe2_77 = sI (gFM N (LXM N (way / 8 + 2) ((way / 2) % 4) (way % 2)) (LYM N (way / 8 + 2) ((way / 2) % 4) (way % 2)) (k % 11) (k / 11)) (N 141)) ∨ (r_77 = 0 ∧ ¬ FT (LXM N (way / 8 + 2) ((way / 2) % 4) (way % 2)) (LYM N (way / 8 + 2) ((way / 2) % 4) (way % 2)) (N 141) wi hi (k % 11) (k / 11)) := p_77
        refine r_if_eq C 125 dX12_laysRanks_80 rfl (by omega) (fun c_4 => ?_) (fun c_4 => ?_)
        · skip
          have hnf : ¬ (k % 11 < wi ∧ k / 11 < hi ∧ FT (wX (XM N) (YM N) way) (wY (XM N) (YM N) way) (N 141) wi hi (k % 11) (k / 11)) := fun z => by rcases p_77 with e | e; omega; exact e.2 z.2.2
          refine r_iinc C (lv' := [(5, vi (k + 1)), (0, .ref hM), (1, vi way), (2, vi (way / 8 + 2)), (3, vi ((way / 2) % 4)), (4, vi (way % 2))]) dX12_laysRanks_125 5 rfl rfl rfl ?_
          refine r_goto C 38 dX12_laysRanks_128 rfl ?_
          refine r_lv (lv' := [(0, .ref hM), (1, vi way), (2, vi (way / 8 + 2)), (3, vi ((way / 2) % 4)), (4, vi (way % 2)), (5, vi (k + 1))]) [1, 2, 3, 4, 5, 0] rfl ?_
          exact ih_38 (k + 1, ii2_77, wo2_77, wd2_77, oe2_77, m3, K3) (show (0 ≤ (k + 1) ∧ (k + 1) ≤ 121) ∧ (0 ≤ m3 ∧ m3 ≤ 121 * way + (k + 1)) ∧ (HLD (RSK wi hi (FRr N) (XM N) (YM N) (N 141) way (k + 1)) K3 m3) from ⟨(by omega), (by omega), (HLD_iff (fun r => RSK_n hnf r) jI)⟩) (show 121 - (k + 1) < 121 - k from by omega)
        · skip
          obtain ⟨-, hft, e1, e2, -, -⟩ := Or.resolve_right p_77 (fun z => by omega)
          obtain ⟨k1, k2, -, -⟩ := look_an (w0 := 0) hN p_1.1 hft
          have hrk : rkP (FRr N) (XM N) (YM N) (N 141) way k = ((((ii2_77 * 100) + wo2_77) * 24) + way) * 121 + k := by rw [e1, e2, k1, k2]; rfl
          refine r_aload_n C dX12_laysRanks_83 0 rfl ?_
          refine gf_X12_38 C dX12_laysRanks_84 0 rfl rfl ?_
          refine r_aload_n C dX12_laysRanks_87 0 rfl ?_
          refine gf_X12_177 C dX12_laysRanks_88 0 rfl rfl ?_
          refine r_aload_n C dX12_laysRanks_91 0 rfl ?_
          refine gf_X12_149 C dX12_laysRanks_92 0 rfl rfl ?_
          refine r_bipush C dX12_laysRanks_95 rfl ?_
          refine r_imul C dX12_laysRanks_97 ?_
          refine r_aload_n C dX12_laysRanks_98 0 rfl ?_
          refine gf_X12_152 C dX12_laysRanks_99 0 rfl rfl ?_
          refine r_iadd C dX12_laysRanks_102 ?_
          refine r_bipush C dX12_laysRanks_103 rfl ?_
          refine r_imul C dX12_laysRanks_105 ?_
          refine r_iload_n C dX12_laysRanks_106 1 rfl ?_
          refine r_iadd C dX12_laysRanks_107 ?_
          refine r_bipush C dX12_laysRanks_108 rfl ?_
          refine r_imul C dX12_laysRanks_110 ?_
          refine r_iload C dX12_laysRanks_111 5 rfl ?_
          refine r_iadd C dX12_laysRanks_113 ?_
          refine r_iast C (ws' := [(hM, oB 11 [vi wi, vi hi, .ref mN, .ref mC, vi cm, vi ca, .ref mL, vi sc, vi qu, vi fp, .ref mT, vi lm, vi nw, vi nh, vi nr, .ref mF, .ref mR, .ref mD, .ref mA, vi ii2_77, vi wo2_77, vi wd2_77, vi oe2_77, .ref mK, vi m3, .ref mH, vi cn]), (mN, aI g 145 N), (mA, aI g 121 A2_1), (mK, aI g 2904 (zU K3 m3 ((((((ii2_77 * 100) + wo2_77) * 24) + way) * 121) + k)))]) dX12_laysRanks_114 3 rfl rfl (by omega) rfl ?_
          refine r_aload_n C dX12_laysRanks_115 0 rfl ?_
          refine r_dup C dX12_laysRanks_116 rfl ?_
          refine gf_X12_177 C dX12_laysRanks_117 0 rfl rfl ?_
          refine r_iconst C dX12_laysRanks_120 ?_
          refine r_iadd C dX12_laysRanks_121 ?_
          refine pf_X12_177 C (ws' := [(hM, oB 11 [vi wi, vi hi, .ref mN, .ref mC, vi cm, vi ca, .ref mL, vi sc, vi qu, vi fp, .ref mT, vi lm, vi nw, vi nh, vi nr, .ref mF, .ref mR, .ref mD, .ref mA, vi ii2_77, vi wo2_77, vi wd2_77, vi oe2_77, .ref mK, vi (m3 + 1), .ref mH, vi cn]), (mN, aI g 145 N), (mA, aI g 121 A2_1), (mK, aI g 2904 (zU K3 m3 ((((((ii2_77 * 100) + wo2_77) * 24) + way) * 121) + k)))]) dX12_laysRanks_122 0 rfl (Nat.le_of_ble_eq_true rfl) rfl ?_
          refine r_iinc C (lv' := [(5, vi (k + 1)), (0, .ref hM), (1, vi way), (2, vi (way / 8 + 2)), (3, vi ((way / 2) % 4)), (4, vi (way % 2))]) dX12_laysRanks_125 5 rfl rfl rfl ?_
          refine r_goto C 38 dX12_laysRanks_128 rfl ?_
          refine r_lv (lv' := [(0, .ref hM), (1, vi way), (2, vi (way / 8 + 2)), (3, vi ((way / 2) % 4)), (4, vi (way % 2)), (5, vi (k + 1))]) [1, 2, 3, 4, 5, 0] rfl ?_
          exact ih_38 (k + 1, ii2_77, wo2_77, wd2_77, oe2_77, m3 + 1, zU K3 m3 ((((((ii2_77 * 100) + wo2_77) * 24) + way) * 121) + k)) (show (0 ≤ (k + 1) ∧ (k + 1) ≤ 121) ∧ (0 ≤ (m3 + 1) ∧ (m3 + 1) ≤ 121 * way + (k + 1)) ∧ (HLD (RSK wi hi (FRr N) (XM N) (YM N) (N 141) way (k + 1)) (zU K3 m3 ((((((ii2_77 * 100) + wo2_77) * 24) + way) * 121) + k)) (m3 + 1)) from ⟨(by omega), (by omega), (by rw [← hrk]; exact HLD_add (by omega) jI (fun r => RSK_s (by omega) (by omega) (by omega) (by omega) hft r))⟩) (show 121 - (k + 1) < 121 - k from by omega)
set_option maxHeartbeats 1000000 in
set_option maxRecDepth 100000 in
theorem c_X12_placeOf (l : Launch) (g : Gx) (v : Int) (kv : 0 ≤ v ∧ v < 2147483647) (sz : Nat) : Met l yX12_placeOf (.code yX12_placeOf cX12_placeOf 1 (some .int) :: wsL_law) { frames := 0, cells := 0, slots := 0, locals := 0 } (PR g [vi v] [] sz) (PI (S := Unit) g (fun r u_ => r = v % 121) (fun u_ => []) [] sz) 0 0 (va_A [] sz) := by
  refine meet (own := RX12) rfl (plainFor_of_name (by decide +kernel)) rfl (fun p_ e_ s_ m_ args_ below_ meth_ c_ C hnm => ?_)
  refine r_at (ws' := []) (lv' := [(0, vi v)]) rfl rfl ?_
  refine r_iload_n C dX12_placeOf_0 0 rfl ?_
  refine r_bipush C dX12_placeOf_1 rfl ?_
  refine r_irem C dX12_placeOf_3 (by omega) ?_
  exact e_i C () dX12_placeOf_4 (show (v % 121) = v % 121 from rfl) rfl
set_option maxHeartbeats 1000000 in
set_option maxRecDepth 100000 in
theorem c_X12_isApart (l : Launch) (g : Gx) (hM : Nat) (wi : Int) (hi : Int) (mN : Nat) (mC : Nat) (cm : Int) (ca : Int) (mL : Nat) (sc : Int) (qu : Int) (fp : Int) (mT : Nat) (lm : Int) (nw : Int) (nh : Int) (nr : Int) (mF : Nat) (mR : Nat) (mD : Nat) (mA : Nat) (ii : Int) (wo : Int) (wd : Int) (oe : Int) (mK : Nat) (rm : Int) (mH : Nat) (cn : Int) (H : Int → Int) (v : Int) (a : Int) (kc : 0 ≤ cn ∧ cn ≤ 10) (kH : ∀ k : Int, 0 ≤ k → k < cn → 0 ≤ H k ∧ H k < 2147483647) (kv : 0 ≤ v ∧ v < 2147483647) (ka : 0 ≤ a ∧ a ≤ 20) (sz : Nat) : Met l yX12_isApart (.code yX12_isApart cX12_isApart 7 (some .boolean) :: wsL_law) { frames := 1, cells := 0, slots := 0, locals := 20 } (PR g [.ref hM, vi v, vi a] [(hM, oB 11 [vi wi, vi hi, .ref mN, .ref mC, vi cm, vi ca, .ref mL, vi sc, vi qu, vi fp, .ref mT, vi lm, vi nw, vi nh, vi nr, .ref mF, .ref mR, .ref mD, .ref mA, vi ii, vi wo, vi wd, vi oe, .ref mK, vi rm, .ref mH, vi cn]), (mH, aI g 10 H)] sz) (PI (S := Unit) g (fun r u_ => (r = 1 ∧ APT a (v % 121) H cn) ∨ (r = 0 ∧ ¬ APT a (v % 121) H cn)) (fun u_ => [(hM, oB 11 [vi wi, vi hi, .ref mN, .ref mC, vi cm, vi ca, .ref mL, vi sc, vi qu, vi fp, .ref mT, vi lm, vi nw, vi nh, vi nr, .ref mF, .ref mR, .ref mD, .ref mA, vi ii, vi wo, vi wd, vi oe, .ref mK, vi rm, .ref mH, vi cn]), (mH, aI g 10 H)]) [(hM, oB 11 [vi wi, vi hi, .ref mN, .ref mC, vi cm, vi ca, .ref mL, vi sc, vi qu, vi fp, .ref mT, vi lm, vi nw, vi nh, vi nr, .ref mF, .ref mR, .ref mD, .ref mA, vi ii, vi wo, vi wd, vi oe, .ref mK, vi rm, .ref mH, vi cn]), (mH, aI g 10 H)] sz) 0 0 (va_A [(hM, oB 11 [vi wi, vi hi, .ref mN, .ref mC, vi cm, vi ca, .ref mL, vi sc, vi qu, vi fp, .ref mT, vi lm, vi nw, vi nh, vi nr, .ref mF, .ref mR, .ref mD, .ref mA, vi ii, vi wo, vi wd, vi oe, .ref mK, vi rm, .ref mH, vi cn]), (mH, aI g 10 H)] sz) := by
  refine meet (own := RX12) rfl (plainFor_of_name (by decide +kernel)) rfl (fun p_ e_ s_ m_ args_ below_ meth_ c_ C hnm => ?_)
  refine r_at (ws' := [(hM, oB 11 [vi wi, vi hi, .ref mN, .ref mC, vi cm, vi ca, .ref mL, vi sc, vi qu, vi fp, .ref mT, vi lm, vi nw, vi nh, vi nr, .ref mF, .ref mR, .ref mD, .ref mA, vi ii, vi wo, vi wd, vi oe, .ref mK, vi rm, .ref mH, vi cn]), (mH, aI g 10 H)]) (lv' := [(0, .ref hM), (1, vi v), (2, vi a)]) rfl rfl ?_
  refine r_iconst C dX12_isApart_0 ?_
  refine r_istore_n C (lv' := [(3, vi 1), (0, .ref hM), (1, vi v), (2, vi a)]) dX12_isApart_1 rfl rfl ?_
  refine r_iconst C dX12_isApart_2 ?_
  refine r_istore C (lv' := [(4, vi 0), (3, vi 1), (0, .ref hM), (1, vi v), (2, vi a)]) dX12_isApart_3 rfl rfl ?_
  refine r_lv (lv' := [(0, .ref hM), (1, vi v), (2, vi a), (3, vi 1), (4, vi 0)]) [2, 3, 4, 1, 0] rfl ?_
  refine r_loop (σ := Int × Int) (fun z_ => (0 ≤ z_.1 ∧ z_.1 ≤ cn) ∧ ((z_.2 = 1 ∧ APT a (v % 121) H z_.1) ∨ (z_.2 = 0 ∧ ¬ APT a (v % 121) H z_.1))) (fun z_ => cn - z_.1) (fun z_ => [(hM, oB 11 [vi wi, vi hi, .ref mN, .ref mC, vi cm, vi ca, .ref mL, vi sc, vi qu, vi fp, .ref mT, vi lm, vi nw, vi nh, vi nr, .ref mF, .ref mR, .ref mD, .ref mA, vi ii, vi wo, vi wd, vi oe, .ref mK, vi rm, .ref mH, vi cn]), (mH, aI g 10 H)]) (fun z_ => [(0, .ref hM), (1, vi v), (2, vi a), (3, vi z_.2), (4, vi z_.1)]) (fun z_ hz => ?_) (fun z_ hz ih_5 => ?_) (((0, 1) : Int × Int)) ?_
  · obtain ⟨i, b⟩ := z_
    obtain ⟨ji, jb⟩ := hz
    have ji : 0 ≤ i ∧ i ≤ cn := ji
    have jb : (b = 1 ∧ APT a (v % 121) H i) ∨ (b = 0 ∧ ¬ APT a (v % 121) H i) := jb
    show (0 : Int) ≤ cn - i
    omega
  rotate_left
  · show (0 ≤ 0 ∧ 0 ≤ cn) ∧ ((1 = 1 ∧ APT a (v % 121) H 0) ∨ (1 = 0 ∧ ¬ APT a (v % 121) H 0))
    exact ⟨(by omega), (Or.inl ⟨rfl, fun j a b => by omega⟩)⟩
  obtain ⟨i, b⟩ := z_
  obtain ⟨ji, jb⟩ := hz
  have ji : 0 ≤ i ∧ i ≤ cn := ji
  have jb : (b = 1 ∧ APT a (v % 121) H i) ∨ (b = 0 ∧ ¬ APT a (v % 121) H i) := jb
  refine r_at (ws' := [(hM, oB 11 [vi wi, vi hi, .ref mN, .ref mC, vi cm, vi ca, .ref mL, vi sc, vi qu, vi fp, .ref mT, vi lm, vi nw, vi nh, vi nr, .ref mF, .ref mR, .ref mD, .ref mA, vi ii, vi wo, vi wd, vi oe, .ref mK, vi rm, .ref mH, vi cn]), (mH, aI g 10 H)]) (lv' := [(0, .ref hM), (1, vi v), (2, vi a), (3, vi b), (4, vi i)]) rfl rfl ?_
  refine r_iload C dX12_isApart_5 4 rfl ?_
  refine r_aload_n C dX12_isApart_7 0 rfl ?_
  refine gf_X12_180 C dX12_isApart_8 0 rfl rfl ?_
  refine r_icmp_ge C 107 dX12_isApart_11 rfl (by omega) (fun c_1 => ?_) (fun c_1 => ?_)
  · skip
    refine r_iload_n C dX12_isApart_107 3 rfl ?_
    exact e_z C () dX12_isApart_108 (by omega) (show (b = 1 ∧ APT a (v % 121) H cn) ∨ (b = 0 ∧ ¬ APT a (v % 121) H cn) from by rw [show i = cn by omega] at jb; exact jb) rfl
  · skip
    have hHi := kH i (by omega) (by omega)
    refine r_iload_n C dX12_isApart_14 1 rfl ?_
    refine k_Si C ks_X12_183 (fun sz => c_X12_placeOf l g v kv sz) dX12_isApart_15 rfl rfl rfl ⟨rfl, rfl⟩ [] rfl rfl (fun _ => rfl) (ws' := fun u_ => [(hM, oB 11 [vi wi, vi hi, .ref mN, .ref mC, vi cm, vi ca, .ref mL, vi sc, vi qu, vi fp, .ref mT, vi lm, vi nw, vi nh, vi nr, .ref mF, .ref mR, .ref mD, .ref mA, vi ii, vi wo, vi wd, vi oe, .ref mK, vi rm, .ref mH, vi cn]), (mH, aI g 10 H)]) (fun _ => rfl) (fun r_15 u_ p_15 => ?_)
    have p_15 : r_15 = v % 121 := p_15
    refine r_eq (y := (v % 121)) p_15 ?_
    refine r_bipush C dX12_isApart_18 rfl ?_
    refine r_irem C dX12_isApart_20 (by omega) ?_
    refine r_aload_n C dX12_isApart_21 0 rfl ?_
    refine gf_X12_41 C dX12_isApart_22 0 rfl rfl ?_
    refine r_iload C dX12_isApart_25 4 rfl ?_
    refine r_iald C dX12_isApart_27 1 rfl rfl (by omega) ?_
    refine k_Si C ks_X12_183 (fun sz => c_X12_placeOf l g (H i) hHi sz) dX12_isApart_28 rfl rfl rfl ⟨rfl, rfl⟩ [] rfl rfl (fun _ => rfl) (ws' := fun u_ => [(hM, oB 11 [vi wi, vi hi, .ref mN, .ref mC, vi cm, vi ca, .ref mL, vi sc, vi qu, vi fp, .ref mT, vi lm, vi nw, vi nh, vi nr, .ref mF, .ref mR, .ref mD, .ref mA, vi ii, vi wo, vi wd, vi oe, .ref mK, vi rm, .ref mH, vi cn]), (mH, aI g 10 H)]) (fun _ => rfl) (fun r_28 u_ p_28 => ?_)
    have p_28 : r_28 = (H i) % 121 := p_28
    refine r_eq (y := (H i % 121)) p_28 ?_
    refine r_bipush C dX12_isApart_31 rfl ?_
    refine r_irem C dX12_isApart_33 (by omega) ?_
    refine r_isub C dX12_isApart_34 ?_
    refine r_top (fun u eu => ?_)
    refine r_istore C (lv' := [(5, vi u), (0, .ref hM), (1, vi v), (2, vi a), (3, vi b), (4, vi i)]) dX12_isApart_35 rfl rfl ?_
    refine r_iload_n C dX12_isApart_37 2 rfl ?_
    refine k_Si C ks_X12_183 (fun sz => c_X12_placeOf l g v kv sz) dX12_isApart_38 rfl rfl rfl ⟨rfl, rfl⟩ [] rfl rfl (fun _ => rfl) (ws' := fun u_ => [(hM, oB 11 [vi wi, vi hi, .ref mN, .ref mC, vi cm, vi ca, .ref mL, vi sc, vi qu, vi fp, .ref mT, vi lm, vi nw, vi nh, vi nr, .ref mF, .ref mR, .ref mD, .ref mA, vi ii, vi wo, vi wd, vi oe, .ref mK, vi rm, .ref mH, vi cn]), (mH, aI g 10 H)]) (fun _ => rfl) (fun r_38 u_ p_38 => ?_)
    have p_38 : r_38 = v % 121 := p_38
    refine r_eq (y := (v % 121)) p_38 ?_
    refine r_bipush C dX12_isApart_41 rfl ?_
    refine r_idiv C dX12_isApart_43 (by omega) ?_
    refine r_aload_n C dX12_isApart_44 1 rfl ?_
    refine gf_X12_41 C dX12_isApart_45 0 rfl rfl ?_
    refine r_iload C dX12_isApart_48 5 rfl ?_
    refine r_iald C dX12_isApart_50 1 rfl rfl (by omega) ?_
    refine k_Si C ks_X12_183 (fun sz => c_X12_placeOf l g (H i) hHi sz) dX12_isApart_51 rfl rfl rfl ⟨rfl, rfl⟩ [] rfl rfl (fun _ => rfl) (ws' := fun u_ => [(hM, oB 11 [vi wi, vi hi, .ref mN, .ref mC, vi cm, vi ca, .ref mL, vi sc, vi qu, vi fp, .ref mT, vi lm, vi nw, vi nh, vi nr, .ref mF, .ref mR, .ref mD, .ref mA, vi ii, vi wo, vi wd, vi oe, .ref mK, vi rm, .ref mH, vi cn]), (mH, aI g 10 H)]) (fun _ => rfl) (fun r_51 u_ p_51 => ?_)
    have p_51 : r_51 = (H i) % 121 := p_51
    refine r_eq (y := (H i % 121)) p_51 ?_
    refine r_bipush C dX12_isApart_54 rfl ?_
    refine r_idiv C dX12_isApart_56 (by omega) ?_
    refine r_isub C dX12_isApart_57 ?_
    refine r_top (fun w ew => ?_)
    have hab : apk a (v % 121) (H i) ↔ a ≤ ab u + ab w := by rw [eu, ew]; exact Iff.rfl
    refine r_istore C (lv' := [(6, vi w), (5, vi u), (0, .ref hM), (1, vi v), (2, vi a), (3, vi b), (4, vi i)]) dX12_isApart_58 rfl rfl ?_
    refine r_iload_n C dX12_isApart_60 5 rfl ?_
    refine r_if_eq C 99 dX12_isApart_61 rfl (by omega) (fun c_2 => ?_) (fun c_2 => ?_)
    · skip
      refine r_iconst C dX12_isApart_99 ?_
      refine r_istore_n C (lv' := [(3, vi 0), (6, vi w), (5, vi u), (0, .ref hM), (1, vi v), (2, vi a), (4, vi i)]) dX12_isApart_100 rfl rfl ?_
      refine r_iinc C (lv' := [(4, vi (i + 1)), (3, vi 0), (6, vi w), (5, vi u), (0, .ref hM), (1, vi v), (2, vi a)]) dX12_isApart_101 6 rfl rfl rfl ?_
      refine r_goto C 5 dX12_isApart_104 rfl ?_
      refine r_lv (lv' := [(0, .ref hM), (1, vi v), (2, vi a), (3, vi 0), (4, vi (i + 1))]) [4, 5, 6, 1, 0] rfl ?_
      exact ih_5 (i + 1, 0) (show (0 ≤ (i + 1) ∧ (i + 1) ≤ cn) ∧ ((0 = 1 ∧ APT a (v % 121) H (i + 1)) ∨ (0 = 0 ∧ ¬ APT a (v % 121) H (i + 1))) from ⟨(by omega), (Or.inr ⟨rfl, by first | exact APT_0 (by omega) (fun z => by have := hab.mp z; unfold ab at this; omega) | exact APT_00 (by rcases jb with z | z; omega; exact z.2)⟩)⟩) (show cn - (i + 1) < cn - i from by omega)
    · skip
      refine r_iload C dX12_isApart_64 1 rfl ?_
      refine r_if_ge C 75 dX12_isApart_66 rfl (by omega) (fun c_3 => ?_) (fun c_3 => ?_)
      · skip
        refine r_iload C dX12_isApart_75 1 rfl ?_
        refine r_iload C dX12_isApart_77 0 rfl ?_
        refine r_if_ge C 88 dX12_isApart_79 rfl (by omega) (fun c_4 => ?_) (fun c_4 => ?_)
        · skip
          refine r_iload C dX12_isApart_88 0 rfl ?_
          refine r_iadd C dX12_isApart_90 ?_
          refine r_iload_n C dX12_isApart_91 4 rfl ?_
          refine r_icmp_lt C 99 dX12_isApart_92 rfl (by omega) (fun c_5 => ?_) (fun c_5 => ?_)
          · skip
            refine r_iconst C dX12_isApart_99 ?_
            refine r_istore_n C (lv' := [(3, vi 0), (6, vi w), (5, vi u), (0, .ref hM), (1, vi v), (2, vi a), (4, vi i)]) dX12_isApart_100 rfl rfl ?_
            refine r_iinc C (lv' := [(4, vi (i + 1)), (3, vi 0), (6, vi w), (5, vi u), (0, .ref hM), (1, vi v), (2, vi a)]) dX12_isApart_101 6 rfl rfl rfl ?_
            refine r_goto C 5 dX12_isApart_104 rfl ?_
            refine r_lv (lv' := [(0, .ref hM), (1, vi v), (2, vi a), (3, vi 0), (4, vi (i + 1))]) [4, 5, 6, 1, 0] rfl ?_
            exact ih_5 (i + 1, 0) (show (0 ≤ (i + 1) ∧ (i + 1) ≤ cn) ∧ ((0 = 1 ∧ APT a (v % 121) H (i + 1)) ∨ (0 = 0 ∧ ¬ APT a (v % 121) H (i + 1))) from ⟨(by omega), (Or.inr ⟨rfl, by first | exact APT_0 (by omega) (fun z => by have := hab.mp z; unfold ab at this; omega) | exact APT_00 (by rcases jb with z | z; omega; exact z.2)⟩)⟩) (show cn - (i + 1) < cn - i from by omega)
          · skip
            refine r_iconst C dX12_isApart_95 ?_
            refine r_goto C 100 dX12_isApart_96 rfl ?_
            refine r_istore_n C (lv' := [(3, vi 1), (6, vi w), (5, vi u), (0, .ref hM), (1, vi v), (2, vi a), (4, vi i)]) dX12_isApart_100 rfl rfl ?_
            refine r_iinc C (lv' := [(4, vi (i + 1)), (3, vi 1), (6, vi w), (5, vi u), (0, .ref hM), (1, vi v), (2, vi a)]) dX12_isApart_101 6 rfl rfl rfl ?_
            refine r_goto C 5 dX12_isApart_104 rfl ?_
            refine r_lv (lv' := [(0, .ref hM), (1, vi v), (2, vi a), (3, vi 1), (4, vi (i + 1))]) [4, 5, 6, 1, 0] rfl ?_
            exact ih_5 (i + 1, 1) (show (0 ≤ (i + 1) ∧ (i + 1) ≤ cn) ∧ ((1 = 1 ∧ APT a (v % 121) H (i + 1)) ∨ (1 = 0 ∧ ¬ APT a (v % 121) H (i + 1))) from ⟨(by omega), (Or.inl ⟨rfl, APT_1 (by rcases jb with z | z; exact z.2; omega) (hab.mpr (by unfold ab; omega))⟩)⟩) (show cn - (i + 1) < cn - i from by omega)
        · skip
          refine r_iload C dX12_isApart_82 0 rfl ?_
          refine r_ineg C dX12_isApart_84 ?_
          refine r_goto C 90 dX12_isApart_85 rfl ?_
          refine r_iadd C dX12_isApart_90 ?_
          refine r_iload_n C dX12_isApart_91 4 rfl ?_
          refine r_icmp_lt C 99 dX12_isApart_92 rfl (by omega) (fun c_6 => ?_) (fun c_6 => ?_)
          · skip
            refine r_iconst C dX12_isApart_99 ?_
            refine r_istore_n C (lv' := [(3, vi 0), (6, vi w), (5, vi u), (0, .ref hM), (1, vi v), (2, vi a), (4, vi i)]) dX12_isApart_100 rfl rfl ?_
            refine r_iinc C (lv' := [(4, vi (i + 1)), (3, vi 0), (6, vi w), (5, vi u), (0, .ref hM), (1, vi v), (2, vi a)]) dX12_isApart_101 6 rfl rfl rfl ?_
            refine r_goto C 5 dX12_isApart_104 rfl ?_
            refine r_lv (lv' := [(0, .ref hM), (1, vi v), (2, vi a), (3, vi 0), (4, vi (i + 1))]) [4, 5, 6, 1, 0] rfl ?_
            exact ih_5 (i + 1, 0) (show (0 ≤ (i + 1) ∧ (i + 1) ≤ cn) ∧ ((0 = 1 ∧ APT a (v % 121) H (i + 1)) ∨ (0 = 0 ∧ ¬ APT a (v % 121) H (i + 1))) from ⟨(by omega), (Or.inr ⟨rfl, by first | exact APT_0 (by omega) (fun z => by have := hab.mp z; unfold ab at this; omega) | exact APT_00 (by rcases jb with z | z; omega; exact z.2)⟩)⟩) (show cn - (i + 1) < cn - i from by omega)
          · skip
            refine r_iconst C dX12_isApart_95 ?_
            refine r_goto C 100 dX12_isApart_96 rfl ?_
            refine r_istore_n C (lv' := [(3, vi 1), (6, vi w), (5, vi u), (0, .ref hM), (1, vi v), (2, vi a), (4, vi i)]) dX12_isApart_100 rfl rfl ?_
            refine r_iinc C (lv' := [(4, vi (i + 1)), (3, vi 1), (6, vi w), (5, vi u), (0, .ref hM), (1, vi v), (2, vi a)]) dX12_isApart_101 6 rfl rfl rfl ?_
            refine r_goto C 5 dX12_isApart_104 rfl ?_
            refine r_lv (lv' := [(0, .ref hM), (1, vi v), (2, vi a), (3, vi 1), (4, vi (i + 1))]) [4, 5, 6, 1, 0] rfl ?_
            exact ih_5 (i + 1, 1) (show (0 ≤ (i + 1) ∧ (i + 1) ≤ cn) ∧ ((1 = 1 ∧ APT a (v % 121) H (i + 1)) ∨ (1 = 0 ∧ ¬ APT a (v % 121) H (i + 1))) from ⟨(by omega), (Or.inl ⟨rfl, APT_1 (by rcases jb with z | z; exact z.2; omega) (hab.mpr (by unfold ab; omega))⟩)⟩) (show cn - (i + 1) < cn - i from by omega)
      · skip
        refine r_iload C dX12_isApart_69 1 rfl ?_
        refine r_ineg C dX12_isApart_71 ?_
        refine r_goto C 77 dX12_isApart_72 rfl ?_
        refine r_iload C dX12_isApart_77 0 rfl ?_
        refine r_if_ge C 88 dX12_isApart_79 rfl (by omega) (fun c_7 => ?_) (fun c_7 => ?_)
        · skip
          refine r_iload C dX12_isApart_88 0 rfl ?_
          refine r_iadd C dX12_isApart_90 ?_
          refine r_iload_n C dX12_isApart_91 4 rfl ?_
          refine r_icmp_lt C 99 dX12_isApart_92 rfl (by omega) (fun c_8 => ?_) (fun c_8 => ?_)
          · skip
            refine r_iconst C dX12_isApart_99 ?_
            refine r_istore_n C (lv' := [(3, vi 0), (6, vi w), (5, vi u), (0, .ref hM), (1, vi v), (2, vi a), (4, vi i)]) dX12_isApart_100 rfl rfl ?_
            refine r_iinc C (lv' := [(4, vi (i + 1)), (3, vi 0), (6, vi w), (5, vi u), (0, .ref hM), (1, vi v), (2, vi a)]) dX12_isApart_101 6 rfl rfl rfl ?_
            refine r_goto C 5 dX12_isApart_104 rfl ?_
            refine r_lv (lv' := [(0, .ref hM), (1, vi v), (2, vi a), (3, vi 0), (4, vi (i + 1))]) [4, 5, 6, 1, 0] rfl ?_
            exact ih_5 (i + 1, 0) (show (0 ≤ (i + 1) ∧ (i + 1) ≤ cn) ∧ ((0 = 1 ∧ APT a (v % 121) H (i + 1)) ∨ (0 = 0 ∧ ¬ APT a (v % 121) H (i + 1))) from ⟨(by omega), (Or.inr ⟨rfl, by first | exact APT_0 (by omega) (fun z => by have := hab.mp z; unfold ab at this; omega) | exact APT_00 (by rcases jb with z | z; omega; exact z.2)⟩)⟩) (show cn - (i + 1) < cn - i from by omega)
          · skip
            refine r_iconst C dX12_isApart_95 ?_
            refine r_goto C 100 dX12_isApart_96 rfl ?_
            refine r_istore_n C (lv' := [(3, vi 1), (6, vi w), (5, vi u), (0, .ref hM), (1, vi v), (2, vi a), (4, vi i)]) dX12_isApart_100 rfl rfl ?_
            refine r_iinc C (lv' := [(4, vi (i + 1)), (3, vi 1), (6, vi w), (5, vi u), (0, .ref hM), (1, vi v), (2, vi a)]) dX12_isApart_101 6 rfl rfl rfl ?_
            refine r_goto C 5 dX12_isApart_104 rfl ?_
            refine r_lv (lv' := [(0, .ref hM), (1, vi v), (2, vi a), (3, vi 1), (4, vi (i + 1))]) [4, 5, 6, 1, 0] rfl ?_
            exact ih_5 (i + 1, 1) (show (0 ≤ (i + 1) ∧ (i + 1) ≤ cn) ∧ ((1 = 1 ∧ APT a (v % 121) H (i + 1)) ∨ (1 = 0 ∧ ¬ APT a (v % 121) H (i + 1))) from ⟨(by omega), (Or.inl ⟨rfl, APT_1 (by rcases jb with z | z; exact z.2; omega) (hab.mpr (by unfold ab; omega))⟩)⟩) (show cn - (i + 1) < cn - i from by omega)
        · skip
          refine r_iload C dX12_isApart_82 0 rfl ?_
          refine r_ineg C dX12_isApart_84 ?_
          refine r_goto C 90 dX12_isApart_85 rfl ?_
          refine r_iadd C dX12_isApart_90 ?_
          refine r_iload_n C dX12_isApart_91 4 rfl ?_
          refine r_icmp_lt C 99 dX12_isApart_92 rfl (by omega) (fun c_9 => ?_) (fun c_9 => ?_)
          · skip
            refine r_iconst C dX12_isApart_99 ?_
            refine r_istore_n C (lv' := [(3, vi 0), (6, vi w), (5, vi u), (0, .ref hM), (1, vi v), (2, vi a), (4, vi i)]) dX12_isApart_100 rfl rfl ?_
            refine r_iinc C (lv' := [(4, vi (i + 1)), (3, vi 0), (6, vi w), (5, vi u), (0, .ref hM), (1, vi v), (2, vi a)]) dX12_isApart_101 6 rfl rfl rfl ?_
            refine r_goto C 5 dX12_isApart_104 rfl ?_
            refine r_lv (lv' := [(0, .ref hM), (1, vi v), (2, vi a), (3, vi 0), (4, vi (i + 1))]) [4, 5, 6, 1, 0] rfl ?_
            exact ih_5 (i + 1, 0) (show (0 ≤ (i + 1) ∧ (i + 1) ≤ cn) ∧ ((0 = 1 ∧ APT a (v % 121) H (i + 1)) ∨ (0 = 0 ∧ ¬ APT a (v % 121) H (i + 1))) from ⟨(by omega), (Or.inr ⟨rfl, by first | exact APT_0 (by omega) (fun z => by have := hab.mp z; unfold ab at this; omega) | exact APT_00 (by rcases jb with z | z; omega; exact z.2)⟩)⟩) (show cn - (i + 1) < cn - i from by omega)
          · skip
            refine r_iconst C dX12_isApart_95 ?_
            refine r_goto C 100 dX12_isApart_96 rfl ?_
            refine r_istore_n C (lv' := [(3, vi 1), (6, vi w), (5, vi u), (0, .ref hM), (1, vi v), (2, vi a), (4, vi i)]) dX12_isApart_100 rfl rfl ?_
            refine r_iinc C (lv' := [(4, vi (i + 1)), (3, vi 1), (6, vi w), (5, vi u), (0, .ref hM), (1, vi v), (2, vi a)]) dX12_isApart_101 6 rfl rfl rfl ?_
            refine r_goto C 5 dX12_isApart_104 rfl ?_
            refine r_lv (lv' := [(0, .ref hM), (1, vi v), (2, vi a), (3, vi 1), (4, vi (i + 1))]) [4, 5, 6, 1, 0] rfl ?_
            exact ih_5 (i + 1, 1) (show (0 ≤ (i + 1) ∧ (i + 1) ≤ cn) ∧ ((1 = 1 ∧ APT a (v % 121) H (i + 1)) ∨ (1 = 0 ∧ ¬ APT a (v % 121) H (i + 1))) from ⟨(by omega), (Or.inl ⟨rfl, APT_1 (by rcases jb with z | z; exact z.2; omega) (hab.mpr (by unfold ab; omega))⟩)⟩) (show cn - (i + 1) < cn - i from by omega)
set_option maxHeartbeats 1000000 in
set_option maxRecDepth 100000 in
theorem c_X12_chooses (l : Launch) (g : Gx) (hM : Nat) (wi : Int) (hi : Int) (mN : Nat) (mC : Nat) (cm : Int) (ca : Int) (mL : Nat) (sc : Int) (qu : Int) (fp : Int) (mT : Nat) (lm : Int) (nw : Int) (nh : Int) (nr : Int) (mF : Nat) (mR : Nat) (mD : Nat) (mA : Nat) (ii : Int) (wo : Int) (wd : Int) (oe : Int) (mK : Nat) (rm : Int) (mH : Nat) (cn : Int) (N : Int → Int) (Fa : Int → Int) (Kr : Int → Int) (H : Int → Int) (a : Int) (hN : MOK wi hi N) (kFa : ∀ k : Int, 0 ≤ k → k < 121 → -2147483648 ≤ Fa k ∧ Fa k ≤ 2147483647) (ka : 0 ≤ a ∧ a ≤ 20) (sz : Nat) : Met l yX12_chooses (.code yX12_chooses cX12_chooses 5 none :: wsL_law) { frames := 5, cells := 0, slots := 0, locals := 124 } (PR g [.ref hM, vi a] [(hM, oB 11 [vi wi, vi hi, .ref mN, .ref mC, vi cm, vi ca, .ref mL, vi sc, vi qu, vi fp, .ref mT, vi lm, vi nw, vi nh, vi nr, .ref mF, .ref mR, .ref mD, .ref mA, vi ii, vi wo, vi wd, vi oe, .ref mK, vi rm, .ref mH, vi cn]), (mN, aI g 145 N), (mA, aI g 121 Fa), (mK, aI g 2904 Kr), (mH, aI g 10 H)] sz) (PV (S := Int × Int × Int × Int × (Int → Int) × (Int → Int) × Int × (Int → Int) × Int) g (fun u_ => (∀ k : Int, 0 ≤ k → k < 121 → -2147483648 ≤ u_.2.2.2.2.1 k ∧ u_.2.2.2.2.1 k ≤ 2147483647) ∧ CHO (RSN wi hi N) a u_.2.2.2.2.2.2.2.1 u_.2.2.2.2.2.2.2.2) (fun u_ => [(hM, oB 11 [vi wi, vi hi, .ref mN, .ref mC, vi cm, vi ca, .ref mL, vi sc, vi qu, vi fp, .ref mT, vi lm, vi nw, vi nh, vi nr, .ref mF, .ref mR, .ref mD, .ref mA, vi u_.1, vi u_.2.1, vi u_.2.2.1, vi u_.2.2.2.1, .ref mK, vi u_.2.2.2.2.2.2.1, .ref mH, vi u_.2.2.2.2.2.2.2.2]), (mN, aI g 145 N), (mA, aI g 121 u_.2.2.2.2.1), (mK, aI g 2904 u_.2.2.2.2.2.1), (mH, aI g 10 u_.2.2.2.2.2.2.2.1)]) [(hM, oB 11 [vi wi, vi hi, .ref mN, .ref mC, vi cm, vi ca, .ref mL, vi sc, vi qu, vi fp, .ref mT, vi lm, vi nw, vi nh, vi nr, .ref mF, .ref mR, .ref mD, .ref mA, vi ii, vi wo, vi wd, vi oe, .ref mK, vi rm, .ref mH, vi cn]), (mN, aI g 145 N), (mA, aI g 121 Fa), (mK, aI g 2904 Kr), (mH, aI g 10 H)] sz) 0 0 (va_A [(hM, oB 11 [vi wi, vi hi, .ref mN, .ref mC, vi cm, vi ca, .ref mL, vi sc, vi qu, vi fp, .ref mT, vi lm, vi nw, vi nh, vi nr, .ref mF, .ref mR, .ref mD, .ref mA, vi ii, vi wo, vi wd, vi oe, .ref mK, vi rm, .ref mH, vi cn]), (mN, aI g 145 N), (mA, aI g 121 Fa), (mK, aI g 2904 Kr), (mH, aI g 10 H)] sz) := by
  refine meet (own := RX12) rfl (plainFor_of_name (by decide +kernel)) rfl (fun p_ e_ s_ m_ args_ below_ meth_ c_ C hnm => ?_)
  refine r_at (ws' := [(hM, oB 11 [vi wi, vi hi, .ref mN, .ref mC, vi cm, vi ca, .ref mL, vi sc, vi qu, vi fp, .ref mT, vi lm, vi nw, vi nh, vi nr, .ref mF, .ref mR, .ref mD, .ref mA, vi ii, vi wo, vi wd, vi oe, .ref mK, vi rm, .ref mH, vi cn]), (mN, aI g 145 N), (mA, aI g 121 Fa), (mK, aI g 2904 Kr), (mH, aI g 10 H)]) (lv' := [(0, .ref hM), (1, vi a)]) rfl rfl ?_
  have hR := RSN_rng hN
  refine r_aload_n C dX12_chooses_0 0 rfl ?_
  refine m_Vv C kv_X12_186 (fun sz => c_X12_laysRanks l g hM wi hi mN mC cm ca mL sc qu fp mT lm nw nh nr mF mR mD mA ii wo wd oe mK rm mH cn N Fa Kr hN kFa sz) dX12_chooses_1 rfl rfl rfl ⟨rfl, rfl⟩ 0 11 rfl rfl rfl [true, true, true, true] rfl (fun _ => rfl) (ws' := fun u_ => [(hM, oB 11 [vi wi, vi hi, .ref mN, .ref mC, vi cm, vi ca, .ref mL, vi sc, vi qu, vi fp, .ref mT, vi lm, vi nw, vi nh, vi nr, .ref mF, .ref mR, .ref mD, .ref mA, vi u_.1, vi u_.2.1, vi u_.2.2.1, vi u_.2.2.2.1, .ref mK, vi u_.2.2.2.2.2.2, .ref mH, vi cn]), (mN, aI g 145 N), (mA, aI g 121 u_.2.2.2.2.1), (mK, aI g 2904 u_.2.2.2.2.2.1), (mH, aI g 10 H)]) (fun _ => rfl) (fun u_ p_1 => ?_)
  obtain ⟨ii2_1, wo2_1, wd2_1, oe2_1, A2_1, K2_1, rm2_1⟩ := u_
  refine r_at (ws' := [(hM, oB 11 [vi wi, vi hi, .ref mN, .ref mC, vi cm, vi ca, .ref mL, vi sc, vi qu, vi fp, .ref mT, vi lm, vi nw, vi nh, vi nr, .ref mF, .ref mR, .ref mD, .ref mA, vi ii2_1, vi wo2_1, vi wd2_1, vi oe2_1, .ref mK, vi rm2_1, .ref mH, vi cn]), (mN, aI g 145 N), (mA, aI g 121 A2_1), (mK, aI g 2904 K2_1), (mH, aI g 10 H)]) (lv' := [(0, .ref hM), (1, vi a)]) rfl rfl ?_
  have p_1 : (∀ k : Int, 0 ≤ k → k < 121 → -2147483648 ≤ A2_1 k ∧ A2_1 k ≤ 2147483647) ∧ 0 ≤ rm2_1 ∧ rm2_1 ≤ 2904 ∧ HLD (RSN wi hi N) K2_1 rm2_1 := p_1
  obtain ⟨hA2, hm0, hm1, hL⟩ := p_1
  refine r_aload_n C dX12_chooses_4 0 rfl ?_
  refine r_iconst C dX12_chooses_5 ?_
  refine pf_X12_180 C (ws' := [(hM, oB 11 [vi wi, vi hi, .ref mN, .ref mC, vi cm, vi ca, .ref mL, vi sc, vi qu, vi fp, .ref mT, vi lm, vi nw, vi nh, vi nr, .ref mF, .ref mR, .ref mD, .ref mA, vi ii2_1, vi wo2_1, vi wd2_1, vi oe2_1, .ref mK, vi rm2_1, .ref mH, vi 0]), (mN, aI g 145 N), (mA, aI g 121 A2_1), (mK, aI g 2904 K2_1), (mH, aI g 10 H)]) dX12_chooses_6 0 rfl (Nat.le_of_ble_eq_true rfl) rfl ?_
  refine r_iconst C dX12_chooses_9 ?_
  refine r_istore_n C (lv' := [(2, vi (-1)), (0, .ref hM), (1, vi a)]) dX12_chooses_10 rfl rfl ?_
  refine r_lv (lv' := [(0, .ref hM), (1, vi a), (2, vi (-1))]) [1, 2, 0] rfl ?_
  refine r_loop (σ := Int × Int × (Int → Int)) (fun z_ => (0 ≤ z_.2.1 ∧ z_.2.1 ≤ 10) ∧ (-1 ≤ z_.1 ∧ z_.1 < 2147483647) ∧ (LST z_.1 z_.2.2 z_.2.1) ∧ (CHP (RSN wi hi N) a z_.2.2 z_.2.1)) (fun z_ => 10 - z_.2.1) (fun z_ => [(hM, oB 11 [vi wi, vi hi, .ref mN, .ref mC, vi cm, vi ca, .ref mL, vi sc, vi qu, vi fp, .ref mT, vi lm, vi nw, vi nh, vi nr, .ref mF, .ref mR, .ref mD, .ref mA, vi ii2_1, vi wo2_1, vi wd2_1, vi oe2_1, .ref mK, vi rm2_1, .ref mH, vi z_.2.1]), (mN, aI g 145 N), (mA, aI g 121 A2_1), (mK, aI g 2904 K2_1), (mH, aI g 10 z_.2.2)]) (fun z_ => [(0, .ref hM), (1, vi a), (2, vi z_.1)]) (fun z_ hz => ?_) (fun z_ hz ih_11 => ?_) (((-1, 0, H) : Int × Int × (Int → Int))) ?_
  · obtain ⟨z, c1, H1⟩ := z_
    obtain ⟨jc, jz, jl, jP⟩ := hz
    have jc : 0 ≤ c1 ∧ c1 ≤ 10 := jc
    have jz : -1 ≤ z ∧ z < 2147483647 := jz
    have jl : LST z H1 c1 := jl
    have jP : CHP (RSN wi hi N) a H1 c1 := jP
    show (0 : Int) ≤ 10 - c1
    omega
  rotate_left
  · show (0 ≤ 0 ∧ 0 ≤ 10) ∧ (-1 ≤ (-1) ∧ (-1) < 2147483647) ∧ (LST (-1) H 0) ∧ (CHP (RSN wi hi N) a H 0)
    exact ⟨(by decide), (by decide), (Or.inl ⟨rfl, rfl⟩), (fun t a b => by omega)⟩
  obtain ⟨z, c1, H1⟩ := z_
  obtain ⟨jc, jz, jl, jP⟩ := hz
  have jc : 0 ≤ c1 ∧ c1 ≤ 10 := jc
  have jz : -1 ≤ z ∧ z < 2147483647 := jz
  have jl : LST z H1 c1 := jl
  have jP : CHP (RSN wi hi N) a H1 c1 := jP
  refine r_at (ws' := [(hM, oB 11 [vi wi, vi hi, .ref mN, .ref mC, vi cm, vi ca, .ref mL, vi sc, vi qu, vi fp, .ref mT, vi lm, vi nw, vi nh, vi nr, .ref mF, .ref mR, .ref mD, .ref mA, vi ii2_1, vi wo2_1, vi wd2_1, vi oe2_1, .ref mK, vi rm2_1, .ref mH, vi c1]), (mN, aI g 145 N), (mA, aI g 121 A2_1), (mK, aI g 2904 K2_1), (mH, aI g 10 H1)]) (lv' := [(0, .ref hM), (1, vi a), (2, vi z)]) rfl rfl ?_
  have hHb : ∀ k : Int, 0 ≤ k → k < c1 → 0 ≤ H1 k ∧ H1 k < 2147483647 := fun k a b => RNG_w hR (jP k a b).1
  refine r_aload_n C dX12_chooses_11 0 rfl ?_
  refine gf_X12_180 C dX12_chooses_12 0 rfl rfl ?_
  refine r_bipush C dX12_chooses_15 rfl ?_
  refine r_icmp_ge C 122 dX12_chooses_17 rfl (by omega) (fun c_1 => ?_) (fun c_1 => ?_)
  · skip
    exact e_v C (ii2_1, wo2_1, wd2_1, oe2_1, A2_1, K2_1, rm2_1, H1, c1) dX12_chooses_122 (show (∀ k : Int, 0 ≤ k → k < 121 → -2147483648 ≤ A2_1 k ∧ A2_1 k ≤ 2147483647) ∧ CHO (RSN wi hi N) a H1 c1 from ⟨hA2, jc.1, jc.2, jP, Or.inl (by omega)⟩) rfl
  · skip
    refine r_ldc C (n := 2147483647) (in_r27 (List.mem_of_getElem? (i := 16) rfl)) rfl dX12_chooses_20 ?_
    refine r_istore_n C (lv' := [(3, vi 2147483647), (0, .ref hM), (1, vi a), (2, vi z)]) dX12_chooses_22 rfl rfl ?_
    refine r_iconst C dX12_chooses_23 ?_
    refine r_istore C (lv' := [(4, vi 0), (3, vi 2147483647), (0, .ref hM), (1, vi a), (2, vi z)]) dX12_chooses_24 rfl rfl ?_
    refine r_lv (lv' := [(0, .ref hM), (1, vi a), (2, vi z), (3, vi 2147483647), (4, vi 0)]) [2, 3, 4, 1, 0] rfl ?_
    refine r_loop (σ := Int × Int) (fun z_ => (0 ≤ z_.1 ∧ z_.1 ≤ rm2_1) ∧ (0 ≤ z_.2 ∧ z_.2 ≤ 2147483647) ∧ (MNP K2_1 z a H1 c1 z_.1 z_.2)) (fun z_ => rm2_1 - z_.1) (fun z_ => [(hM, oB 11 [vi wi, vi hi, .ref mN, .ref mC, vi cm, vi ca, .ref mL, vi sc, vi qu, vi fp, .ref mT, vi lm, vi nw, vi nh, vi nr, .ref mF, .ref mR, .ref mD, .ref mA, vi ii2_1, vi wo2_1, vi wd2_1, vi oe2_1, .ref mK, vi rm2_1, .ref mH, vi c1]), (mN, aI g 145 N), (mA, aI g 121 A2_1), (mK, aI g 2904 K2_1), (mH, aI g 10 H1)]) (fun z_ => [(0, .ref hM), (1, vi a), (2, vi z), (3, vi z_.2), (4, vi z_.1)]) (fun z_ hz => ?_) (fun z_ hz ih_26 => ?_) (((0, 2147483647) : Int × Int)) ?_
    · obtain ⟨i, b⟩ := z_
      obtain ⟨ji, jb, jM⟩ := hz
      have ji : 0 ≤ i ∧ i ≤ rm2_1 := ji
      have jb : 0 ≤ b ∧ b ≤ 2147483647 := jb
      have jM : MNP K2_1 z a H1 c1 i b := jM
      show (0 : Int) ≤ rm2_1 - i
      omega
    rotate_left
    · show (0 ≤ 0 ∧ 0 ≤ rm2_1) ∧ (0 ≤ 2147483647 ∧ 2147483647 ≤ 2147483647) ∧ (MNP K2_1 z a H1 c1 0 2147483647)
      exact ⟨(by omega), (by decide), (MNP_0 _ _ _ _ _)⟩
    obtain ⟨i, b⟩ := z_
    obtain ⟨ji, jb, jM⟩ := hz
    have ji : 0 ≤ i ∧ i ≤ rm2_1 := ji
    have jb : 0 ≤ b ∧ b ≤ 2147483647 := jb
    have jM : MNP K2_1 z a H1 c1 i b := jM
    refine r_at (ws' := [(hM, oB 11 [vi wi, vi hi, .ref mN, .ref mC, vi cm, vi ca, .ref mL, vi sc, vi qu, vi fp, .ref mT, vi lm, vi nw, vi nh, vi nr, .ref mF, .ref mR, .ref mD, .ref mA, vi ii2_1, vi wo2_1, vi wd2_1, vi oe2_1, .ref mK, vi rm2_1, .ref mH, vi c1]), (mN, aI g 145 N), (mA, aI g 121 A2_1), (mK, aI g 2904 K2_1), (mH, aI g 10 H1)]) (lv' := [(0, .ref hM), (1, vi a), (2, vi z), (3, vi b), (4, vi i)]) rfl rfl ?_
    refine r_iload C dX12_chooses_26 4 rfl ?_
    refine r_aload_n C dX12_chooses_28 0 rfl ?_
    refine gf_X12_177 C dX12_chooses_29 0 rfl rfl ?_
    refine r_icmp_ge C 90 dX12_chooses_32 rfl (by omega) (fun c_2 => ?_) (fun c_2 => ?_)
    · skip
      refine r_iload_n C dX12_chooses_90 3 rfl ?_
      refine r_ldc C (n := 2147483647) (in_r27 (List.mem_of_getElem? (i := 16) rfl)) rfl dX12_chooses_91 ?_
      refine r_icmp_ne C 97 dX12_chooses_93 rfl (by omega) (fun c_3 => ?_) (fun c_3 => ?_)
      · skip
        refine r_aload_n C dX12_chooses_97 0 rfl ?_
        refine gf_X12_41 C dX12_chooses_98 0 rfl rfl ?_
        refine r_aload_n C dX12_chooses_101 0 rfl ?_
        refine gf_X12_180 C dX12_chooses_102 0 rfl rfl ?_
        refine r_iload_n C dX12_chooses_105 3 rfl ?_
        refine r_iast C (ws' := [(hM, oB 11 [vi wi, vi hi, .ref mN, .ref mC, vi cm, vi ca, .ref mL, vi sc, vi qu, vi fp, .ref mT, vi lm, vi nw, vi nh, vi nr, .ref mF, .ref mR, .ref mD, .ref mA, vi ii2_1, vi wo2_1, vi wd2_1, vi oe2_1, .ref mK, vi rm2_1, .ref mH, vi c1]), (mN, aI g 145 N), (mA, aI g 121 A2_1), (mK, aI g 2904 K2_1), (mH, aI g 10 (zU H1 c1 b))]) dX12_chooses_106 4 rfl rfl (by omega) rfl ?_
        refine r_aload_n C dX12_chooses_107 0 rfl ?_
        refine r_dup C dX12_chooses_108 rfl ?_
        refine gf_X12_180 C dX12_chooses_109 0 rfl rfl ?_
        refine r_iconst C dX12_chooses_112 ?_
        refine r_iadd C dX12_chooses_113 ?_
        refine pf_X12_180 C (ws' := [(hM, oB 11 [vi wi, vi hi, .ref mN, .ref mC, vi cm, vi ca, .ref mL, vi sc, vi qu, vi fp, .ref mT, vi lm, vi nw, vi nh, vi nr, .ref mF, .ref mR, .ref mD, .ref mA, vi ii2_1, vi wo2_1, vi wd2_1, vi oe2_1, .ref mK, vi rm2_1, .ref mH, vi (c1 + 1)]), (mN, aI g 145 N), (mA, aI g 121 A2_1), (mK, aI g 2904 K2_1), (mH, aI g 10 (zU H1 c1 b))]) dX12_chooses_114 0 rfl (Nat.le_of_ble_eq_true rfl) rfl ?_
        refine r_iload_n C dX12_chooses_117 3 rfl ?_
        refine r_istore_n C (lv' := [(2, vi b), (0, .ref hM), (1, vi a), (3, vi b), (4, vi i)]) dX12_chooses_118 rfl rfl ?_
        refine r_goto C 11 dX12_chooses_119 rfl ?_
        refine r_lv (lv' := [(0, .ref hM), (1, vi a), (2, vi b)]) [1, 2, 0] rfl ?_
        exact ih_11 (b, c1 + 1, zU H1 c1 b) (show (0 ≤ (c1 + 1) ∧ (c1 + 1) ≤ 10) ∧ (-1 ≤ b ∧ b < 2147483647) ∧ (LST b (zU H1 c1 b) (c1 + 1)) ∧ (CHP (RSN wi hi N) a (zU H1 c1 b) (c1 + 1)) from ⟨(by omega), (by omega), (Or.inr ⟨by omega, by rw [show c1 + 1 - 1 = c1 by omega, zU_eq]⟩), (CHP_s jc.1 hR hL (by rw [show i = rm2_1 by omega] at jM; exact jM) (by omega) jl jP)⟩) (show 10 - (c1 + 1) < 10 - c1 from by omega)
      · skip
        exact e_v C (ii2_1, wo2_1, wd2_1, oe2_1, A2_1, K2_1, rm2_1, H1, c1) dX12_chooses_96 (show (∀ k : Int, 0 ≤ k → k < 121 → -2147483648 ≤ A2_1 k ∧ A2_1 k ≤ 2147483647) ∧ CHO (RSN wi hi N) a H1 c1 from ⟨hA2, CHO_end jc hR hL (by rw [show i = rm2_1 by omega, show b = 2147483647 by omega] at jM; exact jM) jl jP⟩) rfl
    · skip
      have hKi : 0 ≤ K2_1 i ∧ K2_1 i < 2147483647 := RNG_w hR ((hL _).mpr ⟨i, ji.1, by omega, rfl⟩)
      refine r_aload_n C dX12_chooses_35 0 rfl ?_
      refine gf_X12_38 C dX12_chooses_36 0 rfl rfl ?_
      refine r_iload C dX12_chooses_39 4 rfl ?_
      refine r_iald C dX12_chooses_41 3 rfl rfl (by omega) ?_
      refine r_iload_n C dX12_chooses_42 2 rfl ?_
      refine r_icmp_le C 82 dX12_chooses_43 rfl (by omega) (fun c_4 => ?_) (fun c_4 => ?_)
      · skip
        refine r_iload_n C dX12_chooses_82 3 rfl ?_
        refine r_istore_n C (lv' := [(3, vi b), (0, .ref hM), (1, vi a), (2, vi z), (4, vi i)]) dX12_chooses_83 rfl rfl ?_
        refine r_iinc C (lv' := [(4, vi (i + 1)), (3, vi b), (0, .ref hM), (1, vi a), (2, vi z)]) dX12_chooses_84 4 rfl rfl rfl ?_
        refine r_goto C 26 dX12_chooses_87 rfl ?_
        refine r_lv (lv' := [(0, .ref hM), (1, vi a), (2, vi z), (3, vi b), (4, vi (i + 1))]) [2, 3, 4, 1, 0] rfl ?_
        exact ih_26 (i + 1, b) (show (0 ≤ (i + 1) ∧ (i + 1) ≤ rm2_1) ∧ (0 ≤ b ∧ b ≤ 2147483647) ∧ (MNP K2_1 z a H1 c1 (i + 1) b) from ⟨(by omega), (by omega), (MNP_old (by first | (intro a9 b9; omega) | (intro a9 b9; rcases p_66 with q9 | q9; omega; exact q9.2)) jM)⟩) (show rm2_1 - (i + 1) < rm2_1 - i from by omega)
      · skip
        refine r_aload_n C dX12_chooses_46 0 rfl ?_
        refine gf_X12_38 C dX12_chooses_47 0 rfl rfl ?_
        refine r_iload C dX12_chooses_50 4 rfl ?_
        refine r_iald C dX12_chooses_52 3 rfl rfl (by omega) ?_
        refine r_iload_n C dX12_chooses_53 3 rfl ?_
        refine r_icmp_ge C 82 dX12_chooses_54 rfl (by omega) (fun c_5 => ?_) (fun c_5 => ?_)
        · skip
          refine r_iload_n C dX12_chooses_82 3 rfl ?_
          refine r_istore_n C (lv' := [(3, vi b), (0, .ref hM), (1, vi a), (2, vi z), (4, vi i)]) dX12_chooses_83 rfl rfl ?_
          refine r_iinc C (lv' := [(4, vi (i + 1)), (3, vi b), (0, .ref hM), (1, vi a), (2, vi z)]) dX12_chooses_84 4 rfl rfl rfl ?_
          refine r_goto C 26 dX12_chooses_87 rfl ?_
          refine r_lv (lv' := [(0, .ref hM), (1, vi a), (2, vi z), (3, vi b), (4, vi (i + 1))]) [2, 3, 4, 1, 0] rfl ?_
          exact ih_26 (i + 1, b) (show (0 ≤ (i + 1) ∧ (i + 1) ≤ rm2_1) ∧ (0 ≤ b ∧ b ≤ 2147483647) ∧ (MNP K2_1 z a H1 c1 (i + 1) b) from ⟨(by omega), (by omega), (MNP_old (by first | (intro a9 b9; omega) | (intro a9 b9; rcases p_66 with q9 | q9; omega; exact q9.2)) jM)⟩) (show rm2_1 - (i + 1) < rm2_1 - i from by omega)
        · skip
          refine r_aload_n C dX12_chooses_57 0 rfl ?_
          refine r_aload_n C dX12_chooses_58 0 rfl ?_
          refine gf_X12_38 C dX12_chooses_59 0 rfl rfl ?_
          refine r_iload C dX12_chooses_62 4 rfl ?_
          refine r_iald C dX12_chooses_64 3 rfl rfl (by omega) ?_
          refine r_iload_n C dX12_chooses_65 1 rfl ?_
          refine k_Vi C kv_X12_189 (fun sz => c_X12_isApart l g hM wi hi mN mC cm ca mL sc qu fp mT lm nw nh nr mF mR mD mA ii2_1 wo2_1 wd2_1 oe2_1 mK rm2_1 mH c1 H1 (K2_1 i) a jc hHb hKi ka sz) dX12_chooses_66 rfl rfl rfl ⟨rfl, rfl⟩ 0 11 rfl rfl rfl [0, 4] rfl rfl (fun _ => rfl) (ws' := fun u_ => [(hM, oB 11 [vi wi, vi hi, .ref mN, .ref mC, vi cm, vi ca, .ref mL, vi sc, vi qu, vi fp, .ref mT, vi lm, vi nw, vi nh, vi nr, .ref mF, .ref mR, .ref mD, .ref mA, vi ii2_1, vi wo2_1, vi wd2_1, vi oe2_1, .ref mK, vi rm2_1, .ref mH, vi c1]), (mN, aI g 145 N), (mA, aI g 121 A2_1), (mK, aI g 2904 K2_1), (mH, aI g 10 H1)]) (fun _ => rfl) (fun r_66 u_ p_66 => ?_)
          have p_66 : (r_66 = 1 ∧ APT a ((K2_1 i) % 121) H1 c1) ∨ (r_66 = 0 ∧ ¬ APT a ((K2_1 i) % 121) H1 c1) := p_66
          refine r_if_eq C 82 dX12_chooses_69 rfl (by omega) (fun c_6 => ?_) (fun c_6 => ?_)
          · skip
            refine r_iload_n C dX12_chooses_82 3 rfl ?_
            refine r_istore_n C (lv' := [(3, vi b), (0, .ref hM), (1, vi a), (2, vi z), (4, vi i)]) dX12_chooses_83 rfl rfl ?_
            refine r_iinc C (lv' := [(4, vi (i + 1)), (3, vi b), (0, .ref hM), (1, vi a), (2, vi z)]) dX12_chooses_84 4 rfl rfl rfl ?_
            refine r_goto C 26 dX12_chooses_87 rfl ?_
            refine r_lv (lv' := [(0, .ref hM), (1, vi a), (2, vi z), (3, vi b), (4, vi (i + 1))]) [2, 3, 4, 1, 0] rfl ?_
            exact ih_26 (i + 1, b) (show (0 ≤ (i + 1) ∧ (i + 1) ≤ rm2_1) ∧ (0 ≤ b ∧ b ≤ 2147483647) ∧ (MNP K2_1 z a H1 c1 (i + 1) b) from ⟨(by omega), (by omega), (MNP_old (by first | (intro a9 b9; omega) | (intro a9 b9; rcases p_66 with q9 | q9; omega; exact q9.2)) jM)⟩) (show rm2_1 - (i + 1) < rm2_1 - i from by omega)
          · skip
            refine r_aload_n C dX12_chooses_72 0 rfl ?_
            refine gf_X12_38 C dX12_chooses_73 0 rfl rfl ?_
            refine r_iload C dX12_chooses_76 4 rfl ?_
            refine r_iald C dX12_chooses_78 3 rfl rfl (by omega) ?_
            refine r_goto C 83 dX12_chooses_79 rfl ?_
            refine r_istore_n C (lv' := [(3, vi (K2_1 i)), (0, .ref hM), (1, vi a), (2, vi z), (4, vi i)]) dX12_chooses_83 rfl rfl ?_
            refine r_iinc C (lv' := [(4, vi (i + 1)), (3, vi (K2_1 i)), (0, .ref hM), (1, vi a), (2, vi z)]) dX12_chooses_84 4 rfl rfl rfl ?_
            refine r_goto C 26 dX12_chooses_87 rfl ?_
            refine r_lv (lv' := [(0, .ref hM), (1, vi a), (2, vi z), (3, vi (K2_1 i)), (4, vi (i + 1))]) [2, 3, 4, 1, 0] rfl ?_
            exact ih_26 (i + 1, K2_1 i) (show (0 ≤ (i + 1) ∧ (i + 1) ≤ rm2_1) ∧ (0 ≤ (K2_1 i) ∧ (K2_1 i) ≤ 2147483647) ∧ (MNP K2_1 z a H1 c1 (i + 1) (K2_1 i)) from ⟨(by omega), (by omega), (MNP_new ji.1 (by omega) (by omega) (by rcases p_66 with q9 | q9; exact q9.2; omega) jM)⟩) (show rm2_1 - (i + 1) < rm2_1 - i from by omega)
set_option maxHeartbeats 1000000 in
set_option maxRecDepth 100000 in
theorem c_X12_partOf (l : Launch) (g : Gx) (v : Int) (q : Int) (kv : 0 ≤ v ∧ v < 2147483647) (kq : 0 ≤ q ∧ q ≤ 6) (sz : Nat) : Met l yX12_partOf (.code yX12_partOf cX12_partOf 4 (some .int) :: wsL_law) { frames := 1, cells := 0, slots := 0, locals := 20 } (PR g [vi v, vi q] [] sz) (PI (S := Unit) g (fun r u_ => r = prt v q) (fun u_ => []) [] sz) 0 0 (va_A [] sz) := by
  refine meet (own := RX12) rfl (plainFor_of_name (by decide +kernel)) rfl (fun p_ e_ s_ m_ args_ below_ meth_ c_ C hnm => ?_)
  refine r_at (ws' := []) (lv' := [(0, vi v), (1, vi q)]) rfl rfl ?_
  refine r_iload_n C dX12_partOf_0 0 rfl ?_
  refine r_bipush C dX12_partOf_1 rfl ?_
  refine r_idiv C dX12_partOf_3 (by omega) ?_
  refine r_bipush C dX12_partOf_4 rfl ?_
  refine r_irem C dX12_partOf_6 (by omega) ?_
  refine r_istore_n C (lv' := [(2, vi ((v / 121) % 24)), (0, vi v), (1, vi q)]) dX12_partOf_7 rfl rfl ?_
  refine r_iload_n C dX12_partOf_8 1 rfl ?_
  refine r_bipush C dX12_partOf_9 rfl ?_
  refine r_idiv C dX12_partOf_11 (by omega) ?_
  refine r_bipush C dX12_partOf_12 rfl ?_
  refine r_idiv C dX12_partOf_14 (by omega) ?_
  refine r_istore_n C (lv' := [(3, vi ((v / 121) / 24)), (2, vi ((v / 121) % 24)), (0, vi v), (1, vi q)]) dX12_partOf_15 rfl rfl ?_
  refine r_iload_n C dX12_partOf_16 3 rfl ?_
  by_cases c_1 : q = 0
  · refine r_tabIn C 56 (v := 0) dX12_partOf_17 c_1 (by omega) rfl rfl ?_
    refine r_iload_n C dX12_partOf_56 2 rfl ?_
    refine k_Si C ks_X12_183 (fun sz => c_X12_placeOf l g v (by omega) sz) dX12_partOf_57 rfl rfl rfl ⟨rfl, rfl⟩ [] rfl rfl (fun _ => rfl) (ws' := fun u_ => []) (fun _ => rfl) (fun r_57 u_ p_57 => ?_)
    have p_57 : r_57 = v % 121 := p_57
    refine r_eq (y := (v % 121)) p_57 ?_
    refine r_bipush C dX12_partOf_60 rfl ?_
    refine r_irem C dX12_partOf_62 (by omega) ?_
    exact e_i C () dX12_partOf_63 (show ((v % 121) % 11) = prt v q from by unfold prt; omega) rfl
  by_cases c_2 : q = 1
  · refine r_tabIn C 64 (v := 1) dX12_partOf_17 c_2 (by omega) rfl rfl ?_
    refine r_iload_n C dX12_partOf_64 2 rfl ?_
    refine k_Si C ks_X12_183 (fun sz => c_X12_placeOf l g v (by omega) sz) dX12_partOf_65 rfl rfl rfl ⟨rfl, rfl⟩ [] rfl rfl (fun _ => rfl) (ws' := fun u_ => []) (fun _ => rfl) (fun r_65 u_ p_65 => ?_)
    have p_65 : r_65 = v % 121 := p_65
    refine r_eq (y := (v % 121)) p_65 ?_
    refine r_bipush C dX12_partOf_68 rfl ?_
    refine r_idiv C dX12_partOf_70 (by omega) ?_
    exact e_i C () dX12_partOf_71 (show ((v % 121) / 11) = prt v q from by unfold prt; omega) rfl
  by_cases c_3 : q = 2
  · refine r_tabIn C 72 (v := 2) dX12_partOf_17 c_3 (by omega) rfl rfl ?_
    refine r_iconst C dX12_partOf_72 ?_
    refine r_iload_n C dX12_partOf_73 1 rfl ?_
    refine r_bipush C dX12_partOf_74 rfl ?_
    refine r_idiv C dX12_partOf_76 (by omega) ?_
    refine r_iadd C dX12_partOf_77 ?_
    exact e_i C () dX12_partOf_78 (show (2 + (((v / 121) % 24) / 8)) = prt v q from by unfold prt; omega) rfl
  by_cases c_4 : q = 3
  · refine r_tabIn C 79 (v := 3) dX12_partOf_17 c_4 (by omega) rfl rfl ?_
    refine r_iload_n C dX12_partOf_79 1 rfl ?_
    refine r_iconst C dX12_partOf_80 ?_
    refine r_idiv C dX12_partOf_81 (by omega) ?_
    refine r_iconst C dX12_partOf_82 ?_
    refine r_irem C dX12_partOf_83 (by omega) ?_
    exact e_i C () dX12_partOf_84 (show ((((v / 121) % 24) / 2) % 4) = prt v q from by unfold prt; omega) rfl
  by_cases c_5 : q = 4
  · refine r_tabIn C 85 (v := 4) dX12_partOf_17 c_5 (by omega) rfl rfl ?_
    refine r_iload_n C dX12_partOf_85 1 rfl ?_
    refine r_iconst C dX12_partOf_86 ?_
    refine r_irem C dX12_partOf_87 (by omega) ?_
    exact e_i C () dX12_partOf_88 (show (((v / 121) % 24) % 2) = prt v q from by unfold prt; omega) rfl
  by_cases c_6 : q = 5
  · refine r_tabIn C 89 (v := 5) dX12_partOf_17 c_6 (by omega) rfl rfl ?_
    refine r_iload_n C dX12_partOf_89 0 rfl ?_
    refine r_bipush C dX12_partOf_90 rfl ?_
    refine r_idiv C dX12_partOf_92 (by omega) ?_
    exact e_i C () dX12_partOf_93 (show (((v / 121) / 24) / 100) = prt v q from by unfold prt; omega) rfl
  refine r_tabOut C 94 dX12_partOf_17 (by omega) (by omega) rfl ?_
  refine r_iload_n C dX12_partOf_94 0 rfl ?_
  refine r_bipush C dX12_partOf_95 rfl ?_
  refine r_irem C dX12_partOf_97 (by omega) ?_
  exact e_i C () dX12_partOf_98 (show (((v / 121) / 24) % 100) = prt v q from by unfold prt; omega) rfl
set_option maxHeartbeats 1000000 in
set_option maxRecDepth 100000 in
theorem c_X12_chosenIs (l : Launch) (g : Gx) (hM : Nat) (wi : Int) (hi : Int) (mN : Nat) (mC : Nat) (cm : Int) (ca : Int) (mL : Nat) (sc : Int) (qu : Int) (fp : Int) (mT : Nat) (lm : Int) (nw : Int) (nh : Int) (nr : Int) (mF : Nat) (mR : Nat) (mD : Nat) (mA : Nat) (ii : Int) (wo : Int) (wd : Int) (oe : Int) (mK : Nat) (rm : Int) (mH : Nat) (cn : Int) (N : Int → Int) (Fa : Int → Int) (Kr : Int → Int) (H : Int → Int) (a : Int) (i : Int) (q : Int) (hN : MOK wi hi N) (kFa : ∀ k : Int, 0 ≤ k → k < 121 → -2147483648 ≤ Fa k ∧ Fa k ≤ 2147483647) (ka : 0 ≤ a ∧ a ≤ 20) (ki : -1 ≤ i ∧ i ≤ 2147483647) (kq : 0 ≤ q ∧ q ≤ 6) (sz : Nat) : Met l yX12_chosenIs (.code yX12_chosenIs cX12_chosenIs 4 (some .int) :: wsL_law) { frames := 6, cells := 0, slots := 0, locals := 148 } (PR g [.ref hM, vi a, vi i, vi q] [(hM, oB 11 [vi wi, vi hi, .ref mN, .ref mC, vi cm, vi ca, .ref mL, vi sc, vi qu, vi fp, .ref mT, vi lm, vi nw, vi nh, vi nr, .ref mF, .ref mR, .ref mD, .ref mA, vi ii, vi wo, vi wd, vi oe, .ref mK, vi rm, .ref mH, vi cn]), (mN, aI g 145 N), (mA, aI g 121 Fa), (mK, aI g 2904 Kr), (mH, aI g 10 H)] sz) (PI (S := Int × Int × Int × Int × (Int → Int) × (Int → Int) × Int × (Int → Int) × Int) g (fun r u_ => (∀ k : Int, 0 ≤ k → k < 121 → -2147483648 ≤ u_.2.2.2.2.1 k ∧ u_.2.2.2.2.1 k ≤ 2147483647) ∧ CHO (RSN wi hi N) a u_.2.2.2.2.2.2.2.1 u_.2.2.2.2.2.2.2.2 ∧ r = pOf u_.2.2.2.2.2.2.2.1 u_.2.2.2.2.2.2.2.2 i q) (fun u_ => [(hM, oB 11 [vi wi, vi hi, .ref mN, .ref mC, vi cm, vi ca, .ref mL, vi sc, vi qu, vi fp, .ref mT, vi lm, vi nw, vi nh, vi nr, .ref mF, .ref mR, .ref mD, .ref mA, vi u_.1, vi u_.2.1, vi u_.2.2.1, vi u_.2.2.2.1, .ref mK, vi u_.2.2.2.2.2.2.1, .ref mH, vi u_.2.2.2.2.2.2.2.2]), (mN, aI g 145 N), (mA, aI g 121 u_.2.2.2.2.1), (mK, aI g 2904 u_.2.2.2.2.2.1), (mH, aI g 10 u_.2.2.2.2.2.2.2.1)]) [(hM, oB 11 [vi wi, vi hi, .ref mN, .ref mC, vi cm, vi ca, .ref mL, vi sc, vi qu, vi fp, .ref mT, vi lm, vi nw, vi nh, vi nr, .ref mF, .ref mR, .ref mD, .ref mA, vi ii, vi wo, vi wd, vi oe, .ref mK, vi rm, .ref mH, vi cn]), (mN, aI g 145 N), (mA, aI g 121 Fa), (mK, aI g 2904 Kr), (mH, aI g 10 H)] sz) 0 0 (va_A [(hM, oB 11 [vi wi, vi hi, .ref mN, .ref mC, vi cm, vi ca, .ref mL, vi sc, vi qu, vi fp, .ref mT, vi lm, vi nw, vi nh, vi nr, .ref mF, .ref mR, .ref mD, .ref mA, vi ii, vi wo, vi wd, vi oe, .ref mK, vi rm, .ref mH, vi cn]), (mN, aI g 145 N), (mA, aI g 121 Fa), (mK, aI g 2904 Kr), (mH, aI g 10 H)] sz) := by
  refine meet (own := RX12) rfl (plainFor_of_name (by decide +kernel)) rfl (fun p_ e_ s_ m_ args_ below_ meth_ c_ C hnm => ?_)
  refine r_at (ws' := [(hM, oB 11 [vi wi, vi hi, .ref mN, .ref mC, vi cm, vi ca, .ref mL, vi sc, vi qu, vi fp, .ref mT, vi lm, vi nw, vi nh, vi nr, .ref mF, .ref mR, .ref mD, .ref mA, vi ii, vi wo, vi wd, vi oe, .ref mK, vi rm, .ref mH, vi cn]), (mN, aI g 145 N), (mA, aI g 121 Fa), (mK, aI g 2904 Kr), (mH, aI g 10 H)]) (lv' := [(0, .ref hM), (1, vi a), (2, vi i), (3, vi q)]) rfl rfl ?_
  have hR := RSN_rng hN
  refine r_aload_n C dX12_chosenIs_0 0 rfl ?_
  refine r_iload_n C dX12_chosenIs_1 1 rfl ?_
  refine m_Vv C kv_X12_192 (fun sz => c_X12_chooses l g hM wi hi mN mC cm ca mL sc qu fp mT lm nw nh nr mF mR mD mA ii wo wd oe mK rm mH cn N Fa Kr H a hN kFa ka sz) dX12_chosenIs_2 rfl rfl rfl ⟨rfl, rfl⟩ 0 11 rfl rfl rfl [true, true, true, true, true] rfl (fun _ => rfl) (ws' := fun u_ => [(hM, oB 11 [vi wi, vi hi, .ref mN, .ref mC, vi cm, vi ca, .ref mL, vi sc, vi qu, vi fp, .ref mT, vi lm, vi nw, vi nh, vi nr, .ref mF, .ref mR, .ref mD, .ref mA, vi u_.1, vi u_.2.1, vi u_.2.2.1, vi u_.2.2.2.1, .ref mK, vi u_.2.2.2.2.2.2.1, .ref mH, vi u_.2.2.2.2.2.2.2.2]), (mN, aI g 145 N), (mA, aI g 121 u_.2.2.2.2.1), (mK, aI g 2904 u_.2.2.2.2.2.1), (mH, aI g 10 u_.2.2.2.2.2.2.2.1)]) (fun _ => rfl) (fun u_ p_2 => ?_)
  obtain ⟨ii2_2, wo2_2, wd2_2, oe2_2, A2_2, K2_2, rm2_2, H2_2, cn2_2⟩ := u_
  refine r_at (ws' := [(hM, oB 11 [vi wi, vi hi, .ref mN, .ref mC, vi cm, vi ca, .ref mL, vi sc, vi qu, vi fp, .ref mT, vi lm, vi nw, vi nh, vi nr, .ref mF, .ref mR, .ref mD, .ref mA, vi ii2_2, vi wo2_2, vi wd2_2, vi oe2_2, .ref mK, vi rm2_2, .ref mH, vi cn2_2]), (mN, aI g 145 N), (mA, aI g 121 A2_2), (mK, aI g 2904 K2_2), (mH, aI g 10 H2_2)]) (lv' := [(0, .ref hM), (1, vi a), (2, vi i), (3, vi q)]) rfl rfl ?_
  have p_2 : (∀ k : Int, 0 ≤ k → k < 121 → -2147483648 ≤ A2_2 k ∧ A2_2 k ≤ 2147483647) ∧ CHO (RSN wi hi N) a H2_2 cn2_2 := p_2
  have hcn : 0 ≤ cn2_2 ∧ cn2_2 ≤ 10 := ⟨p_2.2.1, p_2.2.2.1⟩
  refine r_iload_n C dX12_chosenIs_5 2 rfl ?_
  refine r_if_ge C 16 dX12_chosenIs_6 rfl (by omega) (fun c_1 => ?_) (fun c_1 => ?_)
  · skip
    refine r_iload_n C dX12_chosenIs_16 2 rfl ?_
    refine r_aload_n C dX12_chosenIs_17 0 rfl ?_
    refine gf_X12_180 C dX12_chosenIs_18 0 rfl rfl ?_
    refine r_icmp_ge C 37 dX12_chosenIs_21 rfl (by omega) (fun c_2 => ?_) (fun c_2 => ?_)
    · skip
      refine r_bipush C dX12_chosenIs_37 rfl ?_
      exact e_i C (ii2_2, wo2_2, wd2_2, oe2_2, A2_2, K2_2, rm2_2, H2_2, cn2_2) dX12_chosenIs_39 (show (∀ k : Int, 0 ≤ k → k < 121 → -2147483648 ≤ A2_2 k ∧ A2_2 k ≤ 2147483647) ∧ CHO (RSN wi hi N) a H2_2 cn2_2 ∧ (-4) = pOf H2_2 cn2_2 i q from ⟨p_2.1, p_2.2, by unfold pOf; rw [if_neg (by omega), if_neg (by omega)]⟩) rfl
    · skip
      refine r_aload_n C dX12_chosenIs_24 0 rfl ?_
      refine gf_X12_41 C dX12_chosenIs_25 0 rfl rfl ?_
      refine r_iload_n C dX12_chosenIs_28 2 rfl ?_
      refine r_iald C dX12_chosenIs_29 4 rfl rfl (by omega) ?_
      refine r_iload_n C dX12_chosenIs_30 3 rfl ?_
      refine k_Si C ks_X12_196 (fun sz => c_X12_partOf l g (H2_2 i) q (RNG_w hR (p_2.2.2.2.1 i (by omega) (by omega)).1) kq sz) dX12_chosenIs_31 rfl rfl rfl ⟨rfl, rfl⟩ [] rfl rfl (fun _ => rfl) (ws' := fun u_ => [(hM, oB 11 [vi wi, vi hi, .ref mN, .ref mC, vi cm, vi ca, .ref mL, vi sc, vi qu, vi fp, .ref mT, vi lm, vi nw, vi nh, vi nr, .ref mF, .ref mR, .ref mD, .ref mA, vi ii2_2, vi wo2_2, vi wd2_2, vi oe2_2, .ref mK, vi rm2_2, .ref mH, vi cn2_2]), (mN, aI g 145 N), (mA, aI g 121 A2_2), (mK, aI g 2904 K2_2), (mH, aI g 10 H2_2)]) (fun _ => rfl) (fun r_31 u_ p_31 => ?_)
      have p_31 : r_31 = prt (H2_2 i) q := p_31
      refine r_goto C 39 dX12_chosenIs_34 rfl ?_
      exact e_i C (ii2_2, wo2_2, wd2_2, oe2_2, A2_2, K2_2, rm2_2, H2_2, cn2_2) dX12_chosenIs_39 (show (∀ k : Int, 0 ≤ k → k < 121 → -2147483648 ≤ A2_2 k ∧ A2_2 k ≤ 2147483647) ∧ CHO (RSN wi hi N) a H2_2 cn2_2 ∧ r_31 = pOf H2_2 cn2_2 i q from ⟨p_2.1, p_2.2, by unfold pOf; rw [if_neg (by omega), if_pos (by omega)]; exact p_31⟩) rfl
  · skip
    refine r_aload_n C dX12_chosenIs_9 0 rfl ?_
    refine gf_X12_180 C dX12_chosenIs_10 0 rfl rfl ?_
    refine r_goto C 39 dX12_chosenIs_13 rfl ?_
    exact e_i C (ii2_2, wo2_2, wd2_2, oe2_2, A2_2, K2_2, rm2_2, H2_2, cn2_2) dX12_chosenIs_39 (show (∀ k : Int, 0 ≤ k → k < 121 → -2147483648 ≤ A2_2 k ∧ A2_2 k ≤ 2147483647) ∧ CHO (RSN wi hi N) a H2_2 cn2_2 ∧ cn2_2 = pOf H2_2 cn2_2 i q from ⟨p_2.1, p_2.2, by unfold pOf; rw [if_pos (by omega)]⟩) rfl
set_option maxHeartbeats 1000000 in
set_option maxRecDepth 100000 in
theorem c_X12_best (l : Launch) (g : Gx) (hM : Nat) (wi : Int) (hi : Int) (mN : Nat) (mC : Nat) (cm : Int) (ca : Int) (mL : Nat) (sc : Int) (qu : Int) (fp : Int) (mT : Nat) (lm : Int) (nw : Int) (nh : Int) (nr : Int) (mF : Nat) (mR : Nat) (mD : Nat) (mA : Nat) (ii : Int) (wo : Int) (wd : Int) (oe : Int) (mK : Nat) (rm : Int) (mH : Nat) (cn : Int) (N : Int → Int) (Fa : Int → Int) (Kr : Int → Int) (H : Int → Int) (i : Int) (q : Int) (hN : MOK wi hi N) (kFa : ∀ k : Int, 0 ≤ k → k < 121 → -2147483648 ≤ Fa k ∧ Fa k ≤ 2147483647) (bbi : -2147483648 ≤ i ∧ i ≤ 2147483647) (bbq : -2147483648 ≤ q ∧ q ≤ 2147483647) (sz : Nat) : Met l yX12_best (.code yX12_best cX12_best 3 (some .int) :: wsL_law) { frames := 7, cells := 0, slots := 0, locals := 171 } (PR g [.ref hM, vi i, vi q] [(hM, oB 11 [vi wi, vi hi, .ref mN, .ref mC, vi cm, vi ca, .ref mL, vi sc, vi qu, vi fp, .ref mT, vi lm, vi nw, vi nh, vi nr, .ref mF, .ref mR, .ref mD, .ref mA, vi ii, vi wo, vi wd, vi oe, .ref mK, vi rm, .ref mH, vi cn]), (mN, aI g 145 N), (mA, aI g 121 Fa), (mK, aI g 2904 Kr), (mH, aI g 10 H)] sz) (PI (S := Int × Int × Int × Int × (Int → Int) × (Int → Int) × Int × (Int → Int) × Int) g (fun r u_ => (∀ k : Int, 0 ≤ k → k < 121 → -2147483648 ≤ u_.2.2.2.2.1 k ∧ u_.2.2.2.2.1 k ≤ 2147483647) ∧ ((r = -1 ∧ ¬ (-1 ≤ i ∧ 0 ≤ q ∧ q ≤ 6)) ∨ ((-1 ≤ i ∧ 0 ≤ q ∧ q ≤ 6) ∧ ∃ (T9 : Int → Int) (n9 : Int), TOP (RSN wi hi N) T9 n9 ∧ r = pOf T9 n9 i q))) (fun u_ => [(hM, oB 11 [vi wi, vi hi, .ref mN, .ref mC, vi cm, vi ca, .ref mL, vi sc, vi qu, vi fp, .ref mT, vi lm, vi nw, vi nh, vi nr, .ref mF, .ref mR, .ref mD, .ref mA, vi u_.1, vi u_.2.1, vi u_.2.2.1, vi u_.2.2.2.1, .ref mK, vi u_.2.2.2.2.2.2.1, .ref mH, vi u_.2.2.2.2.2.2.2.2]), (mN, aI g 145 N), (mA, aI g 121 u_.2.2.2.2.1), (mK, aI g 2904 u_.2.2.2.2.2.1), (mH, aI g 10 u_.2.2.2.2.2.2.2.1)]) [(hM, oB 11 [vi wi, vi hi, .ref mN, .ref mC, vi cm, vi ca, .ref mL, vi sc, vi qu, vi fp, .ref mT, vi lm, vi nw, vi nh, vi nr, .ref mF, .ref mR, .ref mD, .ref mA, vi ii, vi wo, vi wd, vi oe, .ref mK, vi rm, .ref mH, vi cn]), (mN, aI g 145 N), (mA, aI g 121 Fa), (mK, aI g 2904 Kr), (mH, aI g 10 H)] sz) 0 0 (va_A [(hM, oB 11 [vi wi, vi hi, .ref mN, .ref mC, vi cm, vi ca, .ref mL, vi sc, vi qu, vi fp, .ref mT, vi lm, vi nw, vi nh, vi nr, .ref mF, .ref mR, .ref mD, .ref mA, vi ii, vi wo, vi wd, vi oe, .ref mK, vi rm, .ref mH, vi cn]), (mN, aI g 145 N), (mA, aI g 121 Fa), (mK, aI g 2904 Kr), (mH, aI g 10 H)] sz) := by
  refine meet (own := RX12) rfl (plainFor_of_name (by decide +kernel)) rfl (fun p_ e_ s_ m_ args_ below_ meth_ c_ C hnm => ?_)
  refine r_at (ws' := [(hM, oB 11 [vi wi, vi hi, .ref mN, .ref mC, vi cm, vi ca, .ref mL, vi sc, vi qu, vi fp, .ref mT, vi lm, vi nw, vi nh, vi nr, .ref mF, .ref mR, .ref mD, .ref mA, vi ii, vi wo, vi wd, vi oe, .ref mK, vi rm, .ref mH, vi cn]), (mN, aI g 145 N), (mA, aI g 121 Fa), (mK, aI g 2904 Kr), (mH, aI g 10 H)]) (lv' := [(0, .ref hM), (1, vi i), (2, vi q)]) rfl rfl ?_
  refine r_iload_n C dX12_best_0 1 rfl ?_
  refine r_iconst C dX12_best_1 ?_
  refine r_icmp_lt C 25 dX12_best_2 rfl (by omega) (fun c_1 => ?_) (fun c_1 => ?_)
  · skip
    refine r_iconst C dX12_best_25 ?_
    exact e_i C (ii, wo, wd, oe, Fa, Kr, rm, H, cn) dX12_best_26 (show (∀ k : Int, 0 ≤ k → k < 121 → -2147483648 ≤ Fa k ∧ Fa k ≤ 2147483647) ∧ (((-1) = -1 ∧ ¬ (-1 ≤ i ∧ 0 ≤ q ∧ q ≤ 6)) ∨ ((-1 ≤ i ∧ 0 ≤ q ∧ q ≤ 6) ∧ ∃ (T9 : Int → Int) (n9 : Int), TOP (RSN wi hi N) T9 n9 ∧ (-1) = pOf T9 n9 i q)) from ⟨kFa, Or.inl ⟨rfl, by omega⟩⟩) rfl
  · skip
    refine r_iload_n C dX12_best_5 2 rfl ?_
    refine r_iconst C dX12_best_6 ?_
    refine r_bipush C dX12_best_7 rfl ?_
    refine k_Si C ks_X12_58 (fun sz => c_X12_in l g q 0 6 (by omega) (by omega) (by omega) sz) dX12_best_9 rfl rfl rfl ⟨rfl, rfl⟩ [] rfl rfl (fun _ => rfl) (ws' := fun u_ => [(hM, oB 11 [vi wi, vi hi, .ref mN, .ref mC, vi cm, vi ca, .ref mL, vi sc, vi qu, vi fp, .ref mT, vi lm, vi nw, vi nh, vi nr, .ref mF, .ref mR, .ref mD, .ref mA, vi ii, vi wo, vi wd, vi oe, .ref mK, vi rm, .ref mH, vi cn]), (mN, aI g 145 N), (mA, aI g 121 Fa), (mK, aI g 2904 Kr), (mH, aI g 10 H)]) (fun _ => rfl) (fun r_9 u_ p_9 => ?_)
    have p_9 : (r_9 = 1 ∧ 0 ≤ q ∧ q ≤ 6) ∨ (r_9 = 0 ∧ ¬ (0 ≤ q ∧ q ≤ 6)) := p_9
    refine r_if_eq C 25 dX12_best_12 rfl (by omega) (fun c_2 => ?_) (fun c_2 => ?_)
    · skip
      refine r_iconst C dX12_best_25 ?_
      exact e_i C (ii, wo, wd, oe, Fa, Kr, rm, H, cn) dX12_best_26 (show (∀ k : Int, 0 ≤ k → k < 121 → -2147483648 ≤ Fa k ∧ Fa k ≤ 2147483647) ∧ (((-1) = -1 ∧ ¬ (-1 ≤ i ∧ 0 ≤ q ∧ q ≤ 6)) ∨ ((-1 ≤ i ∧ 0 ≤ q ∧ q ≤ 6) ∧ ∃ (T9 : Int → Int) (n9 : Int), TOP (RSN wi hi N) T9 n9 ∧ (-1) = pOf T9 n9 i q)) from ⟨kFa, Or.inl ⟨rfl, by omega⟩⟩) rfl
    · skip
      refine r_aload_n C dX12_best_15 0 rfl ?_
      refine r_iconst C dX12_best_16 ?_
      refine r_iload_n C dX12_best_17 1 rfl ?_
      refine r_iload_n C dX12_best_18 2 rfl ?_
      refine m_Vi C kv_X12_199 (fun sz => c_X12_chosenIs l g hM wi hi mN mC cm ca mL sc qu fp mT lm nw nh nr mF mR mD mA ii wo wd oe mK rm mH cn N Fa Kr H 0 i q hN kFa (by decide) (by omega) (by omega) sz) dX12_best_19 rfl rfl rfl ⟨rfl, rfl⟩ 0 11 rfl rfl rfl [true, true, true, true, true] rfl (fun _ => rfl) (ws' := fun u_ => [(hM, oB 11 [vi wi, vi hi, .ref mN, .ref mC, vi cm, vi ca, .ref mL, vi sc, vi qu, vi fp, .ref mT, vi lm, vi nw, vi nh, vi nr, .ref mF, .ref mR, .ref mD, .ref mA, vi u_.1, vi u_.2.1, vi u_.2.2.1, vi u_.2.2.2.1, .ref mK, vi u_.2.2.2.2.2.2.1, .ref mH, vi u_.2.2.2.2.2.2.2.2]), (mN, aI g 145 N), (mA, aI g 121 u_.2.2.2.2.1), (mK, aI g 2904 u_.2.2.2.2.2.1), (mH, aI g 10 u_.2.2.2.2.2.2.2.1)]) (fun _ => rfl) (fun r_19 u_ p_19 => ?_)
      obtain ⟨ii2_19, wo2_19, wd2_19, oe2_19, A2_19, K2_19, rm2_19, H2_19, cn2_19⟩ := u_
      refine r_at (ws' := [(hM, oB 11 [vi wi, vi hi, .ref mN, .ref mC, vi cm, vi ca, .ref mL, vi sc, vi qu, vi fp, .ref mT, vi lm, vi nw, vi nh, vi nr, .ref mF, .ref mR, .ref mD, .ref mA, vi ii2_19, vi wo2_19, vi wd2_19, vi oe2_19, .ref mK, vi rm2_19, .ref mH, vi cn2_19]), (mN, aI g 145 N), (mA, aI g 121 A2_19), (mK, aI g 2904 K2_19), (mH, aI g 10 H2_19)]) (lv' := [(0, .ref hM), (1, vi i), (2, vi q)]) rfl rfl ?_
      have p_19 : (∀ k : Int, 0 ≤ k → k < 121 → -2147483648 ≤ A2_19 k ∧ A2_19 k ≤ 2147483647) ∧ CHO (RSN wi hi N) 0 H2_19 cn2_19 ∧ r_19 = pOf H2_19 cn2_19 i q := p_19
      refine r_goto C 26 dX12_best_22 rfl ?_
      exact e_i C (ii2_19, wo2_19, wd2_19, oe2_19, A2_19, K2_19, rm2_19, H2_19, cn2_19) dX12_best_26 (show (∀ k : Int, 0 ≤ k → k < 121 → -2147483648 ≤ A2_19 k ∧ A2_19 k ≤ 2147483647) ∧ ((r_19 = -1 ∧ ¬ (-1 ≤ i ∧ 0 ≤ q ∧ q ≤ 6)) ∨ ((-1 ≤ i ∧ 0 ≤ q ∧ q ≤ 6) ∧ ∃ (T9 : Int → Int) (n9 : Int), TOP (RSN wi hi N) T9 n9 ∧ r_19 = pOf T9 n9 i q)) from ⟨p_19.1, Or.inr ⟨by omega, H2_19, cn2_19, CHO_TOP p_19.2.1, p_19.2.2⟩⟩) rfl
set_option maxHeartbeats 1000000 in
set_option maxRecDepth 100000 in
theorem c_X12_spread (l : Launch) (g : Gx) (hM : Nat) (wi : Int) (hi : Int) (mN : Nat) (mC : Nat) (cm : Int) (ca : Int) (mL : Nat) (sc : Int) (qu : Int) (fp : Int) (mT : Nat) (lm : Int) (nw : Int) (nh : Int) (nr : Int) (mF : Nat) (mR : Nat) (mD : Nat) (mA : Nat) (ii : Int) (wo : Int) (wd : Int) (oe : Int) (mK : Nat) (rm : Int) (mH : Nat) (cn : Int) (N : Int → Int) (Fa : Int → Int) (Kr : Int → Int) (H : Int → Int) (a : Int) (i : Int) (q : Int) (hN : MOK wi hi N) (kFa : ∀ k : Int, 0 ≤ k → k < 121 → -2147483648 ≤ Fa k ∧ Fa k ≤ 2147483647) (bba : -2147483648 ≤ a ∧ a ≤ 2147483647) (bbi : -2147483648 ≤ i ∧ i ≤ 2147483647) (bbq : -2147483648 ≤ q ∧ q ≤ 2147483647) (sz : Nat) : Met l yX12_spread (.code yX12_spread cX12_spread 4 (some .int) :: wsL_law) { frames := 7, cells := 0, slots := 0, locals := 171 } (PR g [.ref hM, vi a, vi i, vi q] [(hM, oB 11 [vi wi, vi hi, .ref mN, .ref mC, vi cm, vi ca, .ref mL, vi sc, vi qu, vi fp, .ref mT, vi lm, vi nw, vi nh, vi nr, .ref mF, .ref mR, .ref mD, .ref mA, vi ii, vi wo, vi wd, vi oe, .ref mK, vi rm, .ref mH, vi cn]), (mN, aI g 145 N), (mA, aI g 121 Fa), (mK, aI g 2904 Kr), (mH, aI g 10 H)] sz) (PI (S := Int × Int × Int × Int × (Int → Int) × (Int → Int) × Int × (Int → Int) × Int) g (fun r u_ => (∀ k : Int, 0 ≤ k → k < 121 → -2147483648 ≤ u_.2.2.2.2.1 k ∧ u_.2.2.2.2.1 k ≤ 2147483647) ∧ ((r = -1 ∧ ¬ (1 ≤ a ∧ a ≤ 20 ∧ -1 ≤ i ∧ 0 ≤ q ∧ q ≤ 6)) ∨ ((1 ≤ a ∧ a ≤ 20 ∧ -1 ≤ i ∧ 0 ≤ q ∧ q ≤ 6) ∧ ∃ (T9 : Int → Int) (n9 : Int), SPR (RSN wi hi N) a T9 n9 ∧ r = pOf T9 n9 i q))) (fun u_ => [(hM, oB 11 [vi wi, vi hi, .ref mN, .ref mC, vi cm, vi ca, .ref mL, vi sc, vi qu, vi fp, .ref mT, vi lm, vi nw, vi nh, vi nr, .ref mF, .ref mR, .ref mD, .ref mA, vi u_.1, vi u_.2.1, vi u_.2.2.1, vi u_.2.2.2.1, .ref mK, vi u_.2.2.2.2.2.2.1, .ref mH, vi u_.2.2.2.2.2.2.2.2]), (mN, aI g 145 N), (mA, aI g 121 u_.2.2.2.2.1), (mK, aI g 2904 u_.2.2.2.2.2.1), (mH, aI g 10 u_.2.2.2.2.2.2.2.1)]) [(hM, oB 11 [vi wi, vi hi, .ref mN, .ref mC, vi cm, vi ca, .ref mL, vi sc, vi qu, vi fp, .ref mT, vi lm, vi nw, vi nh, vi nr, .ref mF, .ref mR, .ref mD, .ref mA, vi ii, vi wo, vi wd, vi oe, .ref mK, vi rm, .ref mH, vi cn]), (mN, aI g 145 N), (mA, aI g 121 Fa), (mK, aI g 2904 Kr), (mH, aI g 10 H)] sz) 0 0 (va_A [(hM, oB 11 [vi wi, vi hi, .ref mN, .ref mC, vi cm, vi ca, .ref mL, vi sc, vi qu, vi fp, .ref mT, vi lm, vi nw, vi nh, vi nr, .ref mF, .ref mR, .ref mD, .ref mA, vi ii, vi wo, vi wd, vi oe, .ref mK, vi rm, .ref mH, vi cn]), (mN, aI g 145 N), (mA, aI g 121 Fa), (mK, aI g 2904 Kr), (mH, aI g 10 H)] sz) := by
  refine meet (own := RX12) rfl (plainFor_of_name (by decide +kernel)) rfl (fun p_ e_ s_ m_ args_ below_ meth_ c_ C hnm => ?_)
  refine r_at (ws' := [(hM, oB 11 [vi wi, vi hi, .ref mN, .ref mC, vi cm, vi ca, .ref mL, vi sc, vi qu, vi fp, .ref mT, vi lm, vi nw, vi nh, vi nr, .ref mF, .ref mR, .ref mD, .ref mA, vi ii, vi wo, vi wd, vi oe, .ref mK, vi rm, .ref mH, vi cn]), (mN, aI g 145 N), (mA, aI g 121 Fa), (mK, aI g 2904 Kr), (mH, aI g 10 H)]) (lv' := [(0, .ref hM), (1, vi a), (2, vi i), (3, vi q)]) rfl rfl ?_
  refine r_iload_n C dX12_spread_0 1 rfl ?_
  refine r_iconst C dX12_spread_1 ?_
  refine r_bipush C dX12_spread_2 rfl ?_
  refine k_Si C ks_X12_58 (fun sz => c_X12_in l g a 1 20 (by omega) (by omega) (by omega) sz) dX12_spread_4 rfl rfl rfl ⟨rfl, rfl⟩ [] rfl rfl (fun _ => rfl) (ws' := fun u_ => [(hM, oB 11 [vi wi, vi hi, .ref mN, .ref mC, vi cm, vi ca, .ref mL, vi sc, vi qu, vi fp, .ref mT, vi lm, vi nw, vi nh, vi nr, .ref mF, .ref mR, .ref mD, .ref mA, vi ii, vi wo, vi wd, vi oe, .ref mK, vi rm, .ref mH, vi cn]), (mN, aI g 145 N), (mA, aI g 121 Fa), (mK, aI g 2904 Kr), (mH, aI g 10 H)]) (fun _ => rfl) (fun r_4 u_ p_4 => ?_)
  have p_4 : (r_4 = 1 ∧ 1 ≤ a ∧ a ≤ 20) ∨ (r_4 = 0 ∧ ¬ (1 ≤ a ∧ a ≤ 20)) := p_4
  refine r_if_eq C 35 dX12_spread_7 rfl (by omega) (fun c_1 => ?_) (fun c_1 => ?_)
  · skip
    refine r_iconst C dX12_spread_35 ?_
    exact e_i C (ii, wo, wd, oe, Fa, Kr, rm, H, cn) dX12_spread_36 (show (∀ k : Int, 0 ≤ k → k < 121 → -2147483648 ≤ Fa k ∧ Fa k ≤ 2147483647) ∧ (((-1) = -1 ∧ ¬ (1 ≤ a ∧ a ≤ 20 ∧ -1 ≤ i ∧ 0 ≤ q ∧ q ≤ 6)) ∨ ((1 ≤ a ∧ a ≤ 20 ∧ -1 ≤ i ∧ 0 ≤ q ∧ q ≤ 6) ∧ ∃ (T9 : Int → Int) (n9 : Int), SPR (RSN wi hi N) a T9 n9 ∧ (-1) = pOf T9 n9 i q)) from ⟨kFa, Or.inl ⟨rfl, by omega⟩⟩) rfl
  · skip
    refine r_iload_n C dX12_spread_10 2 rfl ?_
    refine r_iconst C dX12_spread_11 ?_
    refine r_icmp_lt C 35 dX12_spread_12 rfl (by omega) (fun c_2 => ?_) (fun c_2 => ?_)
    · skip
      refine r_iconst C dX12_spread_35 ?_
      exact e_i C (ii, wo, wd, oe, Fa, Kr, rm, H, cn) dX12_spread_36 (show (∀ k : Int, 0 ≤ k → k < 121 → -2147483648 ≤ Fa k ∧ Fa k ≤ 2147483647) ∧ (((-1) = -1 ∧ ¬ (1 ≤ a ∧ a ≤ 20 ∧ -1 ≤ i ∧ 0 ≤ q ∧ q ≤ 6)) ∨ ((1 ≤ a ∧ a ≤ 20 ∧ -1 ≤ i ∧ 0 ≤ q ∧ q ≤ 6) ∧ ∃ (T9 : Int → Int) (n9 : Int), SPR (RSN wi hi N) a T9 n9 ∧ (-1) = pOf T9 n9 i q)) from ⟨kFa, Or.inl ⟨rfl, by omega⟩⟩) rfl
    · skip
      refine r_iload_n C dX12_spread_15 3 rfl ?_
      refine r_iconst C dX12_spread_16 ?_
      refine r_bipush C dX12_spread_17 rfl ?_
      refine k_Si C ks_X12_58 (fun sz => c_X12_in l g q 0 6 (by omega) (by omega) (by omega) sz) dX12_spread_19 rfl rfl rfl ⟨rfl, rfl⟩ [] rfl rfl (fun _ => rfl) (ws' := fun u_ => [(hM, oB 11 [vi wi, vi hi, .ref mN, .ref mC, vi cm, vi ca, .ref mL, vi sc, vi qu, vi fp, .ref mT, vi lm, vi nw, vi nh, vi nr, .ref mF, .ref mR, .ref mD, .ref mA, vi ii, vi wo, vi wd, vi oe, .ref mK, vi rm, .ref mH, vi cn]), (mN, aI g 145 N), (mA, aI g 121 Fa), (mK, aI g 2904 Kr), (mH, aI g 10 H)]) (fun _ => rfl) (fun r_19 u_ p_19 => ?_)
      have p_19 : (r_19 = 1 ∧ 0 ≤ q ∧ q ≤ 6) ∨ (r_19 = 0 ∧ ¬ (0 ≤ q ∧ q ≤ 6)) := p_19
      refine r_if_eq C 35 dX12_spread_22 rfl (by omega) (fun c_3 => ?_) (fun c_3 => ?_)
      · skip
        refine r_iconst C dX12_spread_35 ?_
        exact e_i C (ii, wo, wd, oe, Fa, Kr, rm, H, cn) dX12_spread_36 (show (∀ k : Int, 0 ≤ k → k < 121 → -2147483648 ≤ Fa k ∧ Fa k ≤ 2147483647) ∧ (((-1) = -1 ∧ ¬ (1 ≤ a ∧ a ≤ 20 ∧ -1 ≤ i ∧ 0 ≤ q ∧ q ≤ 6)) ∨ ((1 ≤ a ∧ a ≤ 20 ∧ -1 ≤ i ∧ 0 ≤ q ∧ q ≤ 6) ∧ ∃ (T9 : Int → Int) (n9 : Int), SPR (RSN wi hi N) a T9 n9 ∧ (-1) = pOf T9 n9 i q)) from ⟨kFa, Or.inl ⟨rfl, by omega⟩⟩) rfl
      · skip
        refine r_aload_n C dX12_spread_25 0 rfl ?_
        refine r_iload_n C dX12_spread_26 1 rfl ?_
        refine r_iload_n C dX12_spread_27 2 rfl ?_
        refine r_iload_n C dX12_spread_28 3 rfl ?_
        refine m_Vi C kv_X12_199 (fun sz => c_X12_chosenIs l g hM wi hi mN mC cm ca mL sc qu fp mT lm nw nh nr mF mR mD mA ii wo wd oe mK rm mH cn N Fa Kr H a i q hN kFa (by omega) (by omega) (by omega) sz) dX12_spread_29 rfl rfl rfl ⟨rfl, rfl⟩ 0 11 rfl rfl rfl [true, true, true, true, true] rfl (fun _ => rfl) (ws' := fun u_ => [(hM, oB 11 [vi wi, vi hi, .ref mN, .ref mC, vi cm, vi ca, .ref mL, vi sc, vi qu, vi fp, .ref mT, vi lm, vi nw, vi nh, vi nr, .ref mF, .ref mR, .ref mD, .ref mA, vi u_.1, vi u_.2.1, vi u_.2.2.1, vi u_.2.2.2.1, .ref mK, vi u_.2.2.2.2.2.2.1, .ref mH, vi u_.2.2.2.2.2.2.2.2]), (mN, aI g 145 N), (mA, aI g 121 u_.2.2.2.2.1), (mK, aI g 2904 u_.2.2.2.2.2.1), (mH, aI g 10 u_.2.2.2.2.2.2.2.1)]) (fun _ => rfl) (fun r_29 u_ p_29 => ?_)
        obtain ⟨ii2_29, wo2_29, wd2_29, oe2_29, A2_29, K2_29, rm2_29, H2_29, cn2_29⟩ := u_
        refine r_at (ws' := [(hM, oB 11 [vi wi, vi hi, .ref mN, .ref mC, vi cm, vi ca, .ref mL, vi sc, vi qu, vi fp, .ref mT, vi lm, vi nw, vi nh, vi nr, .ref mF, .ref mR, .ref mD, .ref mA, vi ii2_29, vi wo2_29, vi wd2_29, vi oe2_29, .ref mK, vi rm2_29, .ref mH, vi cn2_29]), (mN, aI g 145 N), (mA, aI g 121 A2_29), (mK, aI g 2904 K2_29), (mH, aI g 10 H2_29)]) (lv' := [(0, .ref hM), (1, vi a), (2, vi i), (3, vi q)]) rfl rfl ?_
        have p_29 : (∀ k : Int, 0 ≤ k → k < 121 → -2147483648 ≤ A2_29 k ∧ A2_29 k ≤ 2147483647) ∧ CHO (RSN wi hi N) a H2_29 cn2_29 ∧ r_29 = pOf H2_29 cn2_29 i q := p_29
        refine r_goto C 36 dX12_spread_32 rfl ?_
        exact e_i C (ii2_29, wo2_29, wd2_29, oe2_29, A2_29, K2_29, rm2_29, H2_29, cn2_29) dX12_spread_36 (show (∀ k : Int, 0 ≤ k → k < 121 → -2147483648 ≤ A2_29 k ∧ A2_29 k ≤ 2147483647) ∧ ((r_29 = -1 ∧ ¬ (1 ≤ a ∧ a ≤ 20 ∧ -1 ≤ i ∧ 0 ≤ q ∧ q ≤ 6)) ∨ ((1 ≤ a ∧ a ≤ 20 ∧ -1 ≤ i ∧ 0 ≤ q ∧ q ≤ 6) ∧ ∃ (T9 : Int → Int) (n9 : Int), SPR (RSN wi hi N) a T9 n9 ∧ r_29 = pOf T9 n9 i q)) from ⟨p_29.1, Or.inr ⟨by omega, H2_29, cn2_29, CHO_SPR (by omega) p_29.2.1, p_29.2.2⟩⟩) rfl
set_option maxHeartbeats 1000000 in
set_option maxRecDepth 100000 in
theorem c_X12_takeOne (l : Launch) (g : Gx) (hM : Nat) (wi : Int) (hi : Int) (mN : Nat) (mC : Nat) (cm : Int) (ca : Int) (mL : Nat) (sc : Int) (qu : Int) (fp : Int) (mT : Nat) (lm : Int) (nw : Int) (nh : Int) (nr : Int) (mF : Nat) (mR : Nat) (mD : Nat) (mA : Nat) (ii : Int) (wo : Int) (wd : Int) (oe : Int) (mK : Nat) (rm : Int) (mH : Nat) (cn : Int) (N : Int → Int) (Cg : Int → Int) (Lg : Int → Int) (Fa : Int → Int) (Kr : Int → Int) (H : Int → Int) (rch : Int) (ill : Int) (hN : MOK wi hi N) (kca : 0 ≤ ca ∧ ca ≤ 5) (kcm : 0 ≤ cm ∧ cm ≤ 6) (kFa : ∀ k : Int, 0 ≤ k → k < 121 → -2147483648 ≤ Fa k ∧ Fa k ≤ 2147483647) (krc : 0 ≤ rch ∧ rch ≤ 3) (kil : 0 ≤ ill ∧ ill ≤ 990) (sz : Nat) : Met l yX12_takeOne (.code yX12_takeOne cX12_takeOne 11 (some .int) :: wsL_law) { frames := 6, cells := 0, slots := 0, locals := 148 } (PR g [.ref hM, vi rch, vi ill] [(hM, oB 11 [vi wi, vi hi, .ref mN, .ref mC, vi cm, vi ca, .ref mL, vi sc, vi qu, vi fp, .ref mT, vi lm, vi nw, vi nh, vi nr, .ref mF, .ref mR, .ref mD, .ref mA, vi ii, vi wo, vi wd, vi oe, .ref mK, vi rm, .ref mH, vi cn]), (mN, aI g 145 N), (mC, aI g 870 Cg), (mL, aI g 56 Lg), (mA, aI g 121 Fa), (mK, aI g 2904 Kr), (mH, aI g 10 H)] sz) (PI (S := (Int → Int) × (Int → Int) × (Int → Int) × Int × Int × Int × Int × Int × Int × (Int → Int) × (Int → Int) × Int × (Int → Int) × Int) g (fun r u_ => (∀ k : Int, 0 ≤ k → k < 121 → -2147483648 ≤ u_.2.2.2.2.2.2.2.2.2.1 k ∧ u_.2.2.2.2.2.2.2.2.2.1 k ≤ 2147483647) ∧ ((r = -3 ∧ N 144 = 8 ∧ ((u_.1, u_.2.1, u_.2.2.2.1, u_.2.2.2.2.1, u_.2.2.1) : MST) = (N, Cg, ca, cm, Lg)) ∨ (N 144 < 8 ∧ ((r = -2 ∧ TMX wi hi rch ill N ∧ ((u_.1, u_.2.1, u_.2.2.2.1, u_.2.2.2.2.1, u_.2.2.1) : MST) = (N, Cg, ca, cm, Lg)) ∨ (0 < r ∧ r ≤ 121 ∧ ∃ r0 : Int, TMO wi hi rch ill N r0 r ∧ ((u_.1, u_.2.1, u_.2.2.2.1, u_.2.2.2.2.1, u_.2.2.1) : MST) = stM rch r0 r (N, Cg, ca, cm, Lg)))))) (fun u_ => [(hM, oB 11 [vi wi, vi hi, .ref mN, .ref mC, vi u_.2.2.2.2.1, vi u_.2.2.2.1, .ref mL, vi sc, vi qu, vi fp, .ref mT, vi lm, vi nw, vi nh, vi nr, .ref mF, .ref mR, .ref mD, .ref mA, vi u_.2.2.2.2.2.1, vi u_.2.2.2.2.2.2.1, vi u_.2.2.2.2.2.2.2.1, vi u_.2.2.2.2.2.2.2.2.1, .ref mK, vi u_.2.2.2.2.2.2.2.2.2.2.2.1, .ref mH, vi u_.2.2.2.2.2.2.2.2.2.2.2.2.2]), (mN, aI g 145 u_.1), (mC, aI g 870 u_.2.1), (mL, aI g 56 u_.2.2.1), (mA, aI g 121 u_.2.2.2.2.2.2.2.2.2.1), (mK, aI g 2904 u_.2.2.2.2.2.2.2.2.2.2.1), (mH, aI g 10 u_.2.2.2.2.2.2.2.2.2.2.2.2.1)]) [(hM, oB 11 [vi wi, vi hi, .ref mN, .ref mC, vi cm, vi ca, .ref mL, vi sc, vi qu, vi fp, .ref mT, vi lm, vi nw, vi nh, vi nr, .ref mF, .ref mR, .ref mD, .ref mA, vi ii, vi wo, vi wd, vi oe, .ref mK, vi rm, .ref mH, vi cn]), (mN, aI g 145 N), (mC, aI g 870 Cg), (mL, aI g 56 Lg), (mA, aI g 121 Fa), (mK, aI g 2904 Kr), (mH, aI g 10 H)] sz) 0 0 (va_A [(hM, oB 11 [vi wi, vi hi, .ref mN, .ref mC, vi cm, vi ca, .ref mL, vi sc, vi qu, vi fp, .ref mT, vi lm, vi nw, vi nh, vi nr, .ref mF, .ref mR, .ref mD, .ref mA, vi ii, vi wo, vi wd, vi oe, .ref mK, vi rm, .ref mH, vi cn]), (mN, aI g 145 N), (mC, aI g 870 Cg), (mL, aI g 56 Lg), (mA, aI g 121 Fa), (mK, aI g 2904 Kr), (mH, aI g 10 H)] sz) := by
  refine meet (own := RX12) rfl (plainFor_of_name (by decide +kernel)) rfl (fun p_ e_ s_ m_ args_ below_ meth_ c_ C hnm => ?_)
  refine r_at (ws' := [(hM, oB 11 [vi wi, vi hi, .ref mN, .ref mC, vi cm, vi ca, .ref mL, vi sc, vi qu, vi fp, .ref mT, vi lm, vi nw, vi nh, vi nr, .ref mF, .ref mR, .ref mD, .ref mA, vi ii, vi wo, vi wd, vi oe, .ref mK, vi rm, .ref mH, vi cn]), (mN, aI g 145 N), (mC, aI g 870 Cg), (mL, aI g 56 Lg), (mA, aI g 121 Fa), (mK, aI g 2904 Kr), (mH, aI g 10 H)]) (lv' := [(0, .ref hM), (1, vi rch), (2, vi ill)]) rfl rfl ?_
  obtain ⟨nW, nH, n1, nO, nn, nX, nY, nM, nC, nT⟩ := id hN
  have hR := RSN_rng hN
  refine r_aload_n C dX12_takeOne_0 0 rfl ?_
  refine gf_X12_7 C dX12_takeOne_1 0 rfl rfl ?_
  refine r_sipush C dX12_takeOne_4 rfl ?_
  refine r_iald C dX12_takeOne_7 1 rfl rfl (by omega) ?_
  refine r_bipush C dX12_takeOne_8 rfl ?_
  refine r_icmp_ne C 16 dX12_takeOne_10 rfl (by omega) (fun c_1 => ?_) (fun c_1 => ?_)
  · skip
    refine r_aload_n C dX12_takeOne_16 0 rfl ?_
    refine r_iconst C dX12_takeOne_17 ?_
    refine m_Vv C kv_X12_192 (fun sz => c_X12_chooses l g hM wi hi mN mC cm ca mL sc qu fp mT lm nw nh nr mF mR mD mA ii wo wd oe mK rm mH cn N Fa Kr H 0 hN kFa (by decide) sz) dX12_takeOne_18 rfl rfl rfl ⟨rfl, rfl⟩ 0 11 rfl rfl rfl [true, true, false, false, true, true, true] rfl (fun _ => rfl) (ws' := fun u_ => [(hM, oB 11 [vi wi, vi hi, .ref mN, .ref mC, vi cm, vi ca, .ref mL, vi sc, vi qu, vi fp, .ref mT, vi lm, vi nw, vi nh, vi nr, .ref mF, .ref mR, .ref mD, .ref mA, vi u_.1, vi u_.2.1, vi u_.2.2.1, vi u_.2.2.2.1, .ref mK, vi u_.2.2.2.2.2.2.1, .ref mH, vi u_.2.2.2.2.2.2.2.2]), (mN, aI g 145 N), (mC, aI g 870 Cg), (mL, aI g 56 Lg), (mA, aI g 121 u_.2.2.2.2.1), (mK, aI g 2904 u_.2.2.2.2.2.1), (mH, aI g 10 u_.2.2.2.2.2.2.2.1)]) (fun _ => rfl) (fun u_ p_18 => ?_)
    obtain ⟨ii2_18, wo2_18, wd2_18, oe2_18, A2_18, K2_18, rm2_18, H2_18, cn2_18⟩ := u_
    refine r_at (ws' := [(hM, oB 11 [vi wi, vi hi, .ref mN, .ref mC, vi cm, vi ca, .ref mL, vi sc, vi qu, vi fp, .ref mT, vi lm, vi nw, vi nh, vi nr, .ref mF, .ref mR, .ref mD, .ref mA, vi ii2_18, vi wo2_18, vi wd2_18, vi oe2_18, .ref mK, vi rm2_18, .ref mH, vi cn2_18]), (mN, aI g 145 N), (mC, aI g 870 Cg), (mL, aI g 56 Lg), (mA, aI g 121 A2_18), (mK, aI g 2904 K2_18), (mH, aI g 10 H2_18)]) (lv' := [(0, .ref hM), (1, vi rch), (2, vi ill)]) rfl rfl ?_
    have p_18 : (∀ k : Int, 0 ≤ k → k < 121 → -2147483648 ≤ A2_18 k ∧ A2_18 k ≤ 2147483647) ∧ CHO (RSN wi hi N) 0 H2_18 cn2_18 := p_18
    have hTP := CHO_TOP p_18.2
    have hfo : 0 ≤ cn2_18 ∧ cn2_18 ≤ 10 := ⟨hTP.1, hTP.2.1⟩
    refine r_aload_n C dX12_takeOne_21 0 rfl ?_
    refine gf_X12_180 C dX12_takeOne_22 0 rfl rfl ?_
    refine r_if_eq C 42 dX12_takeOne_25 rfl (by omega) (fun c_2 => ?_) (fun c_2 => ?_)
    · skip
      refine r_bipush C dX12_takeOne_42 rfl ?_
      exact e_i C (N, Cg, Lg, ca, cm, ii2_18, wo2_18, wd2_18, oe2_18, A2_18, K2_18, rm2_18, H2_18, cn2_18) dX12_takeOne_44 (show (∀ k : Int, 0 ≤ k → k < 121 → -2147483648 ≤ A2_18 k ∧ A2_18 k ≤ 2147483647) ∧ (((-2) = -3 ∧ N 144 = 8 ∧ ((N, Cg, ca, cm, Lg) : MST) = (N, Cg, ca, cm, Lg)) ∨ (N 144 < 8 ∧ (((-2) = -2 ∧ TMX wi hi rch ill N ∧ ((N, Cg, ca, cm, Lg) : MST) = (N, Cg, ca, cm, Lg)) ∨ (0 < (-2) ∧ (-2) ≤ 121 ∧ ∃ r0 : Int, TMO wi hi rch ill N r0 (-2) ∧ ((N, Cg, ca, cm, Lg) : MST) = stM rch r0 (-2) (N, Cg, ca, cm, Lg))))) from ⟨p_18.1, Or.inr ⟨by omega, Or.inl ⟨rfl, ⟨H2_18, cn2_18, hTP, by first | exact Or.inl (by omega) | exact Or.inr (Or.inl (by omega))⟩, rfl⟩⟩⟩) rfl
    · skip
      have hr0 := RNG_w hR (hTP.2.2.2.1 0 (by decide) (by omega))
      have hp5 : 0 ≤ prt (H2_18 0) 5 ∧ prt (H2_18 0) 5 ≤ 2147483647 := by unfold prt; omega
      refine r_aload_n C dX12_takeOne_28 0 rfl ?_
      refine gf_X12_41 C dX12_takeOne_29 0 rfl rfl ?_
      refine r_iconst C dX12_takeOne_32 ?_
      refine r_iald C dX12_takeOne_33 6 rfl rfl (by omega) ?_
      refine r_iconst C dX12_takeOne_34 ?_
      refine k_Si C ks_X12_196 (fun sz => c_X12_partOf l g (H2_18 0) 5 hr0 (by decide) sz) dX12_takeOne_35 rfl rfl rfl ⟨rfl, rfl⟩ [] rfl rfl (fun _ => rfl) (ws' := fun u_ => [(hM, oB 11 [vi wi, vi hi, .ref mN, .ref mC, vi cm, vi ca, .ref mL, vi sc, vi qu, vi fp, .ref mT, vi lm, vi nw, vi nh, vi nr, .ref mF, .ref mR, .ref mD, .ref mA, vi ii2_18, vi wo2_18, vi wd2_18, vi oe2_18, .ref mK, vi rm2_18, .ref mH, vi cn2_18]), (mN, aI g 145 N), (mC, aI g 870 Cg), (mL, aI g 56 Lg), (mA, aI g 121 A2_18), (mK, aI g 2904 K2_18), (mH, aI g 10 H2_18)]) (fun _ => rfl) (fun r_35 u_ p_35 => ?_)
      have p_35 : r_35 = prt (H2_18 0) 5 := p_35
      refine r_eq (y := (prt (H2_18 0) 5)) p_35 ?_
      refine r_iload_n C dX12_takeOne_38 2 rfl ?_
      refine r_icmp_le C 45 dX12_takeOne_39 rfl (by omega) (fun c_3 => ?_) (fun c_3 => ?_)
      · skip
        refine r_aload_n C dX12_takeOne_45 0 rfl ?_
        refine gf_X12_41 C dX12_takeOne_46 0 rfl rfl ?_
        refine r_iconst C dX12_takeOne_49 ?_
        refine r_iald C dX12_takeOne_50 6 rfl rfl (by omega) ?_
        refine r_istore_n C (lv' := [(3, vi (H2_18 0)), (0, .ref hM), (1, vi rch), (2, vi ill)]) dX12_takeOne_51 rfl rfl ?_
        refine r_iload_n C dX12_takeOne_52 0 rfl ?_
        refine r_iconst C dX12_takeOne_53 ?_
        refine k_Si C ks_X12_196 (fun sz => c_X12_partOf l g (H2_18 0) 0 hr0 (by decide) sz) dX12_takeOne_54 rfl rfl rfl ⟨rfl, rfl⟩ [] rfl rfl (fun _ => rfl) (ws' := fun u_ => [(hM, oB 11 [vi wi, vi hi, .ref mN, .ref mC, vi cm, vi ca, .ref mL, vi sc, vi qu, vi fp, .ref mT, vi lm, vi nw, vi nh, vi nr, .ref mF, .ref mR, .ref mD, .ref mA, vi ii2_18, vi wo2_18, vi wd2_18, vi oe2_18, .ref mK, vi rm2_18, .ref mH, vi cn2_18]), (mN, aI g 145 N), (mC, aI g 870 Cg), (mL, aI g 56 Lg), (mA, aI g 121 A2_18), (mK, aI g 2904 K2_18), (mH, aI g 10 H2_18)]) (fun _ => rfl) (fun r_54 u_ p_54 => ?_)
        have p_54 : r_54 = prt (H2_18 0) 0 := p_54
        refine r_eq (y := (prt (H2_18 0) 0)) p_54 ?_
        refine r_istore C (lv' := [(4, vi (prt (H2_18 0) 0)), (3, vi (H2_18 0)), (0, .ref hM), (1, vi rch), (2, vi ill)]) dX12_takeOne_57 rfl rfl ?_
        refine r_iload_n C dX12_takeOne_59 1 rfl ?_
        refine r_iconst C dX12_takeOne_60 ?_
        refine k_Si C ks_X12_196 (fun sz => c_X12_partOf l g (H2_18 0) 1 hr0 (by decide) sz) dX12_takeOne_61 rfl rfl rfl ⟨rfl, rfl⟩ [] rfl rfl (fun _ => rfl) (ws' := fun u_ => [(hM, oB 11 [vi wi, vi hi, .ref mN, .ref mC, vi cm, vi ca, .ref mL, vi sc, vi qu, vi fp, .ref mT, vi lm, vi nw, vi nh, vi nr, .ref mF, .ref mR, .ref mD, .ref mA, vi ii2_18, vi wo2_18, vi wd2_18, vi oe2_18, .ref mK, vi rm2_18, .ref mH, vi cn2_18]), (mN, aI g 145 N), (mC, aI g 870 Cg), (mL, aI g 56 Lg), (mA, aI g 121 A2_18), (mK, aI g 2904 K2_18), (mH, aI g 10 H2_18)]) (fun _ => rfl) (fun r_61 u_ p_61 => ?_)
        have p_61 : r_61 = prt (H2_18 0) 1 := p_61
        refine r_eq (y := (prt (H2_18 0) 1)) p_61 ?_
        refine r_istore C (lv' := [(5, vi (prt (H2_18 0) 1)), (4, vi (prt (H2_18 0) 0)), (3, vi (H2_18 0)), (0, .ref hM), (1, vi rch), (2, vi ill)]) dX12_takeOne_64 rfl rfl ?_
        refine r_iload_n C dX12_takeOne_66 2 rfl ?_
        refine r_iconst C dX12_takeOne_67 ?_
        refine k_Si C ks_X12_196 (fun sz => c_X12_partOf l g (H2_18 0) 2 hr0 (by decide) sz) dX12_takeOne_68 rfl rfl rfl ⟨rfl, rfl⟩ [] rfl rfl (fun _ => rfl) (ws' := fun u_ => [(hM, oB 11 [vi wi, vi hi, .ref mN, .ref mC, vi cm, vi ca, .ref mL, vi sc, vi qu, vi fp, .ref mT, vi lm, vi nw, vi nh, vi nr, .ref mF, .ref mR, .ref mD, .ref mA, vi ii2_18, vi wo2_18, vi wd2_18, vi oe2_18, .ref mK, vi rm2_18, .ref mH, vi cn2_18]), (mN, aI g 145 N), (mC, aI g 870 Cg), (mL, aI g 56 Lg), (mA, aI g 121 A2_18), (mK, aI g 2904 K2_18), (mH, aI g 10 H2_18)]) (fun _ => rfl) (fun r_68 u_ p_68 => ?_)
        have p_68 : r_68 = prt (H2_18 0) 2 := p_68
        refine r_eq (y := (prt (H2_18 0) 2)) p_68 ?_
        refine r_istore C (lv' := [(6, vi (prt (H2_18 0) 2)), (5, vi (prt (H2_18 0) 1)), (4, vi (prt (H2_18 0) 0)), (3, vi (H2_18 0)), (0, .ref hM), (1, vi rch), (2, vi ill)]) dX12_takeOne_71 rfl rfl ?_
        refine r_iload_n C dX12_takeOne_73 3 rfl ?_
        refine r_iconst C dX12_takeOne_74 ?_
        refine k_Si C ks_X12_196 (fun sz => c_X12_partOf l g (H2_18 0) 3 hr0 (by decide) sz) dX12_takeOne_75 rfl rfl rfl ⟨rfl, rfl⟩ [] rfl rfl (fun _ => rfl) (ws' := fun u_ => [(hM, oB 11 [vi wi, vi hi, .ref mN, .ref mC, vi cm, vi ca, .ref mL, vi sc, vi qu, vi fp, .ref mT, vi lm, vi nw, vi nh, vi nr, .ref mF, .ref mR, .ref mD, .ref mA, vi ii2_18, vi wo2_18, vi wd2_18, vi oe2_18, .ref mK, vi rm2_18, .ref mH, vi cn2_18]), (mN, aI g 145 N), (mC, aI g 870 Cg), (mL, aI g 56 Lg), (mA, aI g 121 A2_18), (mK, aI g 2904 K2_18), (mH, aI g 10 H2_18)]) (fun _ => rfl) (fun r_75 u_ p_75 => ?_)
        have p_75 : r_75 = prt (H2_18 0) 3 := p_75
        refine r_eq (y := (prt (H2_18 0) 3)) p_75 ?_
        refine r_istore C (lv' := [(7, vi (prt (H2_18 0) 3)), (6, vi (prt (H2_18 0) 2)), (5, vi (prt (H2_18 0) 1)), (4, vi (prt (H2_18 0) 0)), (3, vi (H2_18 0)), (0, .ref hM), (1, vi rch), (2, vi ill)]) dX12_takeOne_78 rfl rfl ?_
        refine r_iload_n C dX12_takeOne_80 4 rfl ?_
        refine r_iconst C dX12_takeOne_81 ?_
        refine k_Si C ks_X12_196 (fun sz => c_X12_partOf l g (H2_18 0) 4 hr0 (by decide) sz) dX12_takeOne_82 rfl rfl rfl ⟨rfl, rfl⟩ [] rfl rfl (fun _ => rfl) (ws' := fun u_ => [(hM, oB 11 [vi wi, vi hi, .ref mN, .ref mC, vi cm, vi ca, .ref mL, vi sc, vi qu, vi fp, .ref mT, vi lm, vi nw, vi nh, vi nr, .ref mF, .ref mR, .ref mD, .ref mA, vi ii2_18, vi wo2_18, vi wd2_18, vi oe2_18, .ref mK, vi rm2_18, .ref mH, vi cn2_18]), (mN, aI g 145 N), (mC, aI g 870 Cg), (mL, aI g 56 Lg), (mA, aI g 121 A2_18), (mK, aI g 2904 K2_18), (mH, aI g 10 H2_18)]) (fun _ => rfl) (fun r_82 u_ p_82 => ?_)
        have p_82 : r_82 = prt (H2_18 0) 4 := p_82
        refine r_eq (y := (prt (H2_18 0) 4)) p_82 ?_
        refine r_istore C (lv' := [(8, vi (prt (H2_18 0) 4)), (7, vi (prt (H2_18 0) 3)), (6, vi (prt (H2_18 0) 2)), (5, vi (prt (H2_18 0) 1)), (4, vi (prt (H2_18 0) 0)), (3, vi (H2_18 0)), (0, .ref hM), (1, vi rch), (2, vi ill)]) dX12_takeOne_85 rfl rfl ?_
        refine r_aload_n C dX12_takeOne_87 6 rfl ?_
        refine r_iload C dX12_takeOne_88 4 rfl ?_
        refine r_iload C dX12_takeOne_90 3 rfl ?_
        refine r_iload C dX12_takeOne_92 2 rfl ?_
        refine r_iload C dX12_takeOne_94 1 rfl ?_
        refine r_iload C dX12_takeOne_96 0 rfl ?_
        refine r_iload_n C dX12_takeOne_98 7 rfl ?_
        refine k_Vi C kv_X12_173 (fun sz => c_X12_toldMany l g hM wi hi mN mC cm ca mL sc qu fp mT lm nw nh nr mF mR mD mA ii2_18 wo2_18 wd2_18 oe2_18 mK rm2_18 mH cn2_18 N (prt (H2_18 0) 0) (prt (H2_18 0) 1) (prt (H2_18 0) 2) (prt (H2_18 0) 3) (prt (H2_18 0) 4) rch hN (by have := hr0; unfold prt; omega) (by have := hr0; unfold prt; omega) (by have := hr0; unfold prt; omega) (by have := hr0; unfold prt; omega) (by omega) sz) dX12_takeOne_99 rfl rfl rfl ⟨rfl, rfl⟩ 0 11 rfl rfl rfl [0, 1] rfl rfl (fun _ => rfl) (ws' := fun u_ => [(hM, oB 11 [vi wi, vi hi, .ref mN, .ref mC, vi cm, vi ca, .ref mL, vi sc, vi qu, vi fp, .ref mT, vi lm, vi nw, vi nh, vi nr, .ref mF, .ref mR, .ref mD, .ref mA, vi ii2_18, vi wo2_18, vi wd2_18, vi oe2_18, .ref mK, vi rm2_18, .ref mH, vi cn2_18]), (mN, aI g 145 N), (mC, aI g 870 Cg), (mL, aI g 56 Lg), (mA, aI g 121 A2_18), (mK, aI g 2904 K2_18), (mH, aI g 10 H2_18)]) (fun _ => rfl) (fun r_99 u_ p_99 => ?_)
        have p_99 : r_99 = sI (tdF N (N 142) (LXM N (prt (H2_18 0) 2) (prt (H2_18 0) 3) (prt (H2_18 0) 4)) (LYM N (prt (H2_18 0) 2) (prt (H2_18 0) 3) (prt (H2_18 0) 4)) (N 141) (prt (H2_18 0) 0) (prt (H2_18 0) 1) rch) 121 := p_99
        have hmn : r_99 = sI (tlN N (H2_18 0) rch) 121 := p_99
        have hmb : 0 ≤ r_99 ∧ r_99 ≤ 121 := by rw [hmn]; have := sI_bd (f := tlN N (H2_18 0) rch) (lo := 0) (hi := 1) (n := 121) (by decide) (fun k a b => by have := tlN_01 N (H2_18 0) rch k; omega); omega
        refine r_istore C (lv' := [(9, vi r_99), (8, vi (prt (H2_18 0) 4)), (7, vi (prt (H2_18 0) 3)), (6, vi (prt (H2_18 0) 2)), (5, vi (prt (H2_18 0) 1)), (4, vi (prt (H2_18 0) 0)), (3, vi (H2_18 0)), (0, .ref hM), (1, vi rch), (2, vi ill)]) dX12_takeOne_102 rfl rfl ?_
        refine r_iload C dX12_takeOne_104 0 rfl ?_
        refine r_if_ne C 112 dX12_takeOne_106 rfl (by omega) (fun c_4 => ?_) (fun c_4 => ?_)
        · skip
          refine r_aload_n C dX12_takeOne_112 7 rfl ?_
          refine k_Vv C kv_X12_124 (fun sz => c_X12_remembers l g hM wi hi mN mC cm ca mL sc qu fp mT lm nw nh nr mF mR mD mA ii2_18 wo2_18 wd2_18 oe2_18 mK rm2_18 mH cn2_18 N Cg kca kcm sz) dX12_takeOne_113 rfl rfl rfl ⟨rfl, rfl⟩ 0 11 rfl rfl rfl [0, 1, 2] rfl rfl (fun _ => rfl) (ws' := fun u_ => [(hM, oB 11 [vi wi, vi hi, .ref mN, .ref mC, vi (min (cm + 1) 6), vi ((ca + 1) % 6), .ref mL, vi sc, vi qu, vi fp, .ref mT, vi lm, vi nw, vi nh, vi nr, .ref mF, .ref mR, .ref mD, .ref mA, vi ii2_18, vi wo2_18, vi wd2_18, vi oe2_18, .ref mK, vi rm2_18, .ref mH, vi cn2_18]), (mN, aI g 145 N), (mC, aI g 870 (cpC N Cg ca 145)), (mL, aI g 56 Lg), (mA, aI g 121 A2_18), (mK, aI g 2904 K2_18), (mH, aI g 10 H2_18)]) (fun _ => rfl) (fun u_ p_113 => ?_)
          refine r_iconst C dX12_takeOne_116 ?_
          refine r_istore C (lv' := [(10, vi 0), (9, vi r_99), (8, vi (prt (H2_18 0) 4)), (7, vi (prt (H2_18 0) 3)), (6, vi (prt (H2_18 0) 2)), (5, vi (prt (H2_18 0) 1)), (4, vi (prt (H2_18 0) 0)), (3, vi (H2_18 0)), (0, .ref hM), (1, vi rch), (2, vi ill)]) dX12_takeOne_117 rfl rfl ?_
          refine r_lv (lv' := [(0, .ref hM), (1, vi rch), (2, vi ill), (3, vi (H2_18 0)), (4, vi (prt (H2_18 0) 0)), (5, vi (prt (H2_18 0) 1)), (6, vi (prt (H2_18 0) 2)), (7, vi (prt (H2_18 0) 3)), (8, vi (prt (H2_18 0) 4)), (9, vi r_99), (10, vi 0)]) [8, 9, 10, 7, 6, 5, 4, 3, 2, 1, 0] rfl ?_
          refine r_loop (σ := Int × (Int → Int)) (fun z_ => (0 ≤ z_.1 ∧ z_.1 ≤ 121) ∧ (z_.2 = tkC (tlN N (H2_18 0) rch) N z_.1)) (fun z_ => 121 - z_.1) (fun z_ => [(hM, oB 11 [vi wi, vi hi, .ref mN, .ref mC, vi (min (cm + 1) 6), vi ((ca + 1) % 6), .ref mL, vi sc, vi qu, vi fp, .ref mT, vi lm, vi nw, vi nh, vi nr, .ref mF, .ref mR, .ref mD, .ref mA, vi ii2_18, vi wo2_18, vi wd2_18, vi oe2_18, .ref mK, vi rm2_18, .ref mH, vi cn2_18]), (mN, aI g 145 z_.2), (mC, aI g 870 (cpC N Cg ca 145)), (mL, aI g 56 Lg), (mA, aI g 121 A2_18), (mK, aI g 2904 K2_18), (mH, aI g 10 H2_18)]) (fun z_ => [(0, .ref hM), (1, vi rch), (2, vi ill), (3, vi (H2_18 0)), (4, vi (prt (H2_18 0) 0)), (5, vi (prt (H2_18 0) 1)), (6, vi (prt (H2_18 0) 2)), (7, vi (prt (H2_18 0) 3)), (8, vi (prt (H2_18 0) 4)), (9, vi r_99), (10, vi z_.1)]) (fun z_ hz => ?_) (fun z_ hz ih_119 => ?_) (((0, N) : Int × (Int → Int))) ?_
          · obtain ⟨k, P⟩ := z_
            obtain ⟨jk, jP⟩ := hz
            have jk : 0 ≤ k ∧ k ≤ 121 := jk
            have jP : P = tkC (tlN N (H2_18 0) rch) N k := jP
            show (0 : Int) ≤ 121 - k
            omega
          rotate_left
          · show (0 ≤ 0 ∧ 0 ≤ 121) ∧ (N = tkC (tlN N (H2_18 0) rch) N 0)
            exact ⟨(by decide), ((tkC_0 _ _).symm)⟩
          obtain ⟨k, P⟩ := z_
          obtain ⟨jk, jP⟩ := hz
          have jk : 0 ≤ k ∧ k ≤ 121 := jk
          have jP : P = tkC (tlN N (H2_18 0) rch) N k := jP
          refine r_at (ws' := [(hM, oB 11 [vi wi, vi hi, .ref mN, .ref mC, vi (min (cm + 1) 6), vi ((ca + 1) % 6), .ref mL, vi sc, vi qu, vi fp, .ref mT, vi lm, vi nw, vi nh, vi nr, .ref mF, .ref mR, .ref mD, .ref mA, vi ii2_18, vi wo2_18, vi wd2_18, vi oe2_18, .ref mK, vi rm2_18, .ref mH, vi cn2_18]), (mN, aI g 145 P), (mC, aI g 870 (cpC N Cg ca 145)), (mL, aI g 56 Lg), (mA, aI g 121 A2_18), (mK, aI g 2904 K2_18), (mH, aI g 10 H2_18)]) (lv' := [(0, .ref hM), (1, vi rch), (2, vi ill), (3, vi (H2_18 0)), (4, vi (prt (H2_18 0) 0)), (5, vi (prt (H2_18 0) 1)), (6, vi (prt (H2_18 0) 2)), (7, vi (prt (H2_18 0) 3)), (8, vi (prt (H2_18 0) 4)), (9, vi r_99), (10, vi k)]) rfl rfl ?_
          refine r_iload C dX12_takeOne_119 10 rfl ?_
          refine r_bipush C dX12_takeOne_121 rfl ?_
          refine r_icmp_ge C 170 dX12_takeOne_123 rfl (by omega) (fun c_5 => ?_) (fun c_5 => ?_)
          · skip
            have hk9 : k = 121 := by omega
            refine r_ext C (f' := (tkC (tlN N (H2_18 0) rch) N 121)) (ws' := [(hM, oB 11 [vi wi, vi hi, .ref mN, .ref mC, vi (min (cm + 1) 6), vi ((ca + 1) % 6), .ref mL, vi sc, vi qu, vi fp, .ref mT, vi lm, vi nw, vi nh, vi nr, .ref mF, .ref mR, .ref mD, .ref mA, vi ii2_18, vi wo2_18, vi wd2_18, vi oe2_18, .ref mK, vi rm2_18, .ref mH, vi cn2_18]), (mN, aI g 145 (tkC (tlN N (H2_18 0) rch) N 121)), (mC, aI g 870 (cpC N Cg ca 145)), (mL, aI g 56 Lg), (mA, aI g 121 A2_18), (mK, aI g 2904 K2_18), (mH, aI g 10 H2_18)]) 1 rfl (fun j h0 h1 => by rw [jP, hk9]) rfl ?_
            have h144 : tkC (tlN N (H2_18 0) rch) N 121 144 = N 144 := tkC_hi (by omega)
            refine r_iconst C dX12_takeOne_170 ?_
            refine r_istore C (lv' := [(10, vi 0), (0, .ref hM), (1, vi rch), (2, vi ill), (3, vi (H2_18 0)), (4, vi (prt (H2_18 0) 0)), (5, vi (prt (H2_18 0) 1)), (6, vi (prt (H2_18 0) 2)), (7, vi (prt (H2_18 0) 3)), (8, vi (prt (H2_18 0) 4)), (9, vi r_99)]) dX12_takeOne_171 rfl rfl ?_
            refine r_lv (lv' := [(0, .ref hM), (3, vi (H2_18 0)), (9, vi r_99), (10, vi 0)]) [1, 4, 10, 0] rfl ?_
            refine r_loop (σ := Int × (Int → Int)) (fun z_ => (0 ≤ z_.1 ∧ z_.1 ≤ 6) ∧ (z_.2 = ldC Lg (N 144) (H2_18 0) z_.1)) (fun z_ => 6 - z_.1) (fun z_ => [(hM, oB 11 [vi wi, vi hi, .ref mN, .ref mC, vi (min (cm + 1) 6), vi ((ca + 1) % 6), .ref mL, vi sc, vi qu, vi fp, .ref mT, vi lm, vi nw, vi nh, vi nr, .ref mF, .ref mR, .ref mD, .ref mA, vi ii2_18, vi wo2_18, vi wd2_18, vi oe2_18, .ref mK, vi rm2_18, .ref mH, vi cn2_18]), (mN, aI g 145 (tkC (tlN N (H2_18 0) rch) N 121)), (mC, aI g 870 (cpC N Cg ca 145)), (mL, aI g 56 z_.2), (mA, aI g 121 A2_18), (mK, aI g 2904 K2_18), (mH, aI g 10 H2_18)]) (fun z_ => [(0, .ref hM), (3, vi (H2_18 0)), (9, vi r_99), (10, vi z_.1)]) (fun z_ hz => ?_) (fun z_ hz ih_173 => ?_) (((0, Lg) : Int × (Int → Int))) ?_
            · obtain ⟨i, L1⟩ := z_
              obtain ⟨ji, jL⟩ := hz
              have ji : 0 ≤ i ∧ i ≤ 6 := ji
              have jL : L1 = ldC Lg (N 144) (H2_18 0) i := jL
              show (0 : Int) ≤ 6 - i
              omega
            rotate_left
            · show (0 ≤ 0 ∧ 0 ≤ 6) ∧ (Lg = ldC Lg (N 144) (H2_18 0) 0)
              exact ⟨(by decide), ((ldC_0 _ _ _).symm)⟩
            obtain ⟨i, L1⟩ := z_
            obtain ⟨ji, jL⟩ := hz
            have ji : 0 ≤ i ∧ i ≤ 6 := ji
            have jL : L1 = ldC Lg (N 144) (H2_18 0) i := jL
            refine r_at (ws' := [(hM, oB 11 [vi wi, vi hi, .ref mN, .ref mC, vi (min (cm + 1) 6), vi ((ca + 1) % 6), .ref mL, vi sc, vi qu, vi fp, .ref mT, vi lm, vi nw, vi nh, vi nr, .ref mF, .ref mR, .ref mD, .ref mA, vi ii2_18, vi wo2_18, vi wd2_18, vi oe2_18, .ref mK, vi rm2_18, .ref mH, vi cn2_18]), (mN, aI g 145 (tkC (tlN N (H2_18 0) rch) N 121)), (mC, aI g 870 (cpC N Cg ca 145)), (mL, aI g 56 L1), (mA, aI g 121 A2_18), (mK, aI g 2904 K2_18), (mH, aI g 10 H2_18)]) (lv' := [(0, .ref hM), (3, vi (H2_18 0)), (9, vi r_99), (10, vi i)]) rfl rfl ?_
            refine r_iload C dX12_takeOne_173 3 rfl ?_
            refine r_bipush C dX12_takeOne_175 rfl ?_
            refine r_icmp_ge C 211 dX12_takeOne_177 rfl (by omega) (fun c_6 => ?_) (fun c_6 => ?_)
            · skip
              have hi9 : i = 6 := by omega
              refine r_ext C (f' := (ldC Lg (N 144) (H2_18 0) 6)) (ws' := [(hM, oB 11 [vi wi, vi hi, .ref mN, .ref mC, vi (min (cm + 1) 6), vi ((ca + 1) % 6), .ref mL, vi sc, vi qu, vi fp, .ref mT, vi lm, vi nw, vi nh, vi nr, .ref mF, .ref mR, .ref mD, .ref mA, vi ii2_18, vi wo2_18, vi wd2_18, vi oe2_18, .ref mK, vi rm2_18, .ref mH, vi cn2_18]), (mN, aI g 145 (tkC (tlN N (H2_18 0) rch) N 121)), (mC, aI g 870 (cpC N Cg ca 145)), (mL, aI g 56 (ldC Lg (N 144) (H2_18 0) 6)), (mA, aI g 121 A2_18), (mK, aI g 2904 K2_18), (mH, aI g 10 H2_18)]) 3 rfl (fun j h0 h1 => by rw [jL, hi9]) rfl ?_
              refine r_aload_n C dX12_takeOne_211 0 rfl ?_
              refine gf_X12_16 C dX12_takeOne_212 0 rfl rfl ?_
              refine r_bipush C dX12_takeOne_215 rfl ?_
              refine r_aload_n C dX12_takeOne_217 0 rfl ?_
              refine gf_X12_7 C dX12_takeOne_218 0 rfl rfl ?_
              refine r_sipush C dX12_takeOne_221 rfl ?_
              refine r_iald C dX12_takeOne_224 1 rfl rfl (by omega) ?_
              refine r_eq (y := (N 144)) h144 ?_
              refine r_imul C dX12_takeOne_225 ?_
              refine r_bipush C dX12_takeOne_226 rfl ?_
              refine r_iadd C dX12_takeOne_228 ?_
              refine r_iload C dX12_takeOne_229 2 rfl ?_
              refine r_iast C (ws' := [(hM, oB 11 [vi wi, vi hi, .ref mN, .ref mC, vi (min (cm + 1) 6), vi ((ca + 1) % 6), .ref mL, vi sc, vi qu, vi fp, .ref mT, vi lm, vi nw, vi nh, vi nr, .ref mF, .ref mR, .ref mD, .ref mA, vi ii2_18, vi wo2_18, vi wd2_18, vi oe2_18, .ref mK, vi rm2_18, .ref mH, vi cn2_18]), (mN, aI g 145 (tkC (tlN N (H2_18 0) rch) N 121)), (mC, aI g 870 (cpC N Cg ca 145)), (mL, aI g 56 (zU (ldC Lg (N 144) (H2_18 0) 6) ((7 * (N 144)) + 6) r_99)), (mA, aI g 121 A2_18), (mK, aI g 2904 K2_18), (mH, aI g 10 H2_18)]) dX12_takeOne_231 3 rfl rfl (by omega) rfl ?_
              refine r_aload_n C dX12_takeOne_232 0 rfl ?_
              refine gf_X12_7 C dX12_takeOne_233 0 rfl rfl ?_
              refine r_sipush C dX12_takeOne_236 rfl ?_
              refine r_dup2 C dX12_takeOne_239 rfl rfl ?_
              refine r_iald C dX12_takeOne_240 1 rfl rfl (by omega) ?_
              refine r_eq (y := (N 144)) h144 ?_
              refine r_iconst C dX12_takeOne_241 ?_
              refine r_iadd C dX12_takeOne_242 ?_
              refine r_iast C (ws' := [(hM, oB 11 [vi wi, vi hi, .ref mN, .ref mC, vi (min (cm + 1) 6), vi ((ca + 1) % 6), .ref mL, vi sc, vi qu, vi fp, .ref mT, vi lm, vi nw, vi nh, vi nr, .ref mF, .ref mR, .ref mD, .ref mA, vi ii2_18, vi wo2_18, vi wd2_18, vi oe2_18, .ref mK, vi rm2_18, .ref mH, vi cn2_18]), (mN, aI g 145 (zU (tkC (tlN N (H2_18 0) rch) N 121) 144 ((N 144) + 1))), (mC, aI g 870 (cpC N Cg ca 145)), (mL, aI g 56 (zU (ldC Lg (N 144) (H2_18 0) 6) ((7 * (N 144)) + 6) r_99)), (mA, aI g 121 A2_18), (mK, aI g 2904 K2_18), (mH, aI g 10 H2_18)]) dX12_takeOne_243 1 rfl rfl (by omega) rfl ?_
              refine r_iload C dX12_takeOne_244 2 rfl ?_
              exact e_i C (zU (tkC (tlN N (H2_18 0) rch) N 121) 144 ((N 144) + 1), cpC N Cg ca 145, zU (ldC Lg (N 144) (H2_18 0) 6) ((7 * (N 144)) + 6) r_99, (ca + 1) % 6, min (cm + 1) 6, ii2_18, wo2_18, wd2_18, oe2_18, A2_18, K2_18, rm2_18, H2_18, cn2_18) dX12_takeOne_246 (show (∀ k : Int, 0 ≤ k → k < 121 → -2147483648 ≤ A2_18 k ∧ A2_18 k ≤ 2147483647) ∧ ((r_99 = -3 ∧ N 144 = 8 ∧ (((zU (tkC (tlN N (H2_18 0) rch) N 121) 144 ((N 144) + 1)), (cpC N Cg ca 145), ((ca + 1) % 6), (min (cm + 1) 6), (zU (ldC Lg (N 144) (H2_18 0) 6) ((7 * (N 144)) + 6) r_99)) : MST) = (N, Cg, ca, cm, Lg)) ∨ (N 144 < 8 ∧ ((r_99 = -2 ∧ TMX wi hi rch ill N ∧ (((zU (tkC (tlN N (H2_18 0) rch) N 121) 144 ((N 144) + 1)), (cpC N Cg ca 145), ((ca + 1) % 6), (min (cm + 1) 6), (zU (ldC Lg (N 144) (H2_18 0) 6) ((7 * (N 144)) + 6) r_99)) : MST) = (N, Cg, ca, cm, Lg)) ∨ (0 < r_99 ∧ r_99 ≤ 121 ∧ ∃ r0 : Int, TMO wi hi rch ill N r0 r_99 ∧ (((zU (tkC (tlN N (H2_18 0) rch) N 121) 144 ((N 144) + 1)), (cpC N Cg ca 145), ((ca + 1) % 6), (min (cm + 1) 6), (zU (ldC Lg (N 144) (H2_18 0) 6) ((7 * (N 144)) + 6) r_99)) : MST) = stM rch r0 r_99 (N, Cg, ca, cm, Lg))))) from ⟨p_18.1, Or.inr ⟨by omega, Or.inr ⟨by omega, by omega, (H2_18 0), ⟨H2_18, cn2_18, hTP, by omega, rfl, by omega, hmn, by omega⟩, rfl⟩⟩⟩) rfl
            · skip
              refine r_aload_n C dX12_takeOne_180 0 rfl ?_
              refine gf_X12_16 C dX12_takeOne_181 0 rfl rfl ?_
              refine r_bipush C dX12_takeOne_184 rfl ?_
              refine r_aload_n C dX12_takeOne_186 0 rfl ?_
              refine gf_X12_7 C dX12_takeOne_187 0 rfl rfl ?_
              refine r_sipush C dX12_takeOne_190 rfl ?_
              refine r_iald C dX12_takeOne_193 1 rfl rfl (by omega) ?_
              refine r_eq (y := (N 144)) h144 ?_
              refine r_imul C dX12_takeOne_194 ?_
              refine r_iload C dX12_takeOne_195 3 rfl ?_
              refine r_iadd C dX12_takeOne_197 ?_
              refine r_iload_n C dX12_takeOne_198 1 rfl ?_
              refine r_iload C dX12_takeOne_199 3 rfl ?_
              refine k_Si C ks_X12_196 (fun sz => c_X12_partOf l g (H2_18 0) i hr0 (by omega) sz) dX12_takeOne_201 rfl rfl rfl ⟨rfl, rfl⟩ [] rfl rfl (fun _ => rfl) (ws' := fun u_ => [(hM, oB 11 [vi wi, vi hi, .ref mN, .ref mC, vi (min (cm + 1) 6), vi ((ca + 1) % 6), .ref mL, vi sc, vi qu, vi fp, .ref mT, vi lm, vi nw, vi nh, vi nr, .ref mF, .ref mR, .ref mD, .ref mA, vi ii2_18, vi wo2_18, vi wd2_18, vi oe2_18, .ref mK, vi rm2_18, .ref mH, vi cn2_18]), (mN, aI g 145 (tkC (tlN N (H2_18 0) rch) N 121)), (mC, aI g 870 (cpC N Cg ca 145)), (mL, aI g 56 L1), (mA, aI g 121 A2_18), (mK, aI g 2904 K2_18), (mH, aI g 10 H2_18)]) (fun _ => rfl) (fun r_201 u_ p_201 => ?_)
              have p_201 : r_201 = prt (H2_18 0) i := p_201
              refine r_eq (y := (prt (H2_18 0) i)) p_201 ?_
              refine r_iast C (ws' := [(hM, oB 11 [vi wi, vi hi, .ref mN, .ref mC, vi (min (cm + 1) 6), vi ((ca + 1) % 6), .ref mL, vi sc, vi qu, vi fp, .ref mT, vi lm, vi nw, vi nh, vi nr, .ref mF, .ref mR, .ref mD, .ref mA, vi ii2_18, vi wo2_18, vi wd2_18, vi oe2_18, .ref mK, vi rm2_18, .ref mH, vi cn2_18]), (mN, aI g 145 (tkC (tlN N (H2_18 0) rch) N 121)), (mC, aI g 870 (cpC N Cg ca 145)), (mL, aI g 56 (zU L1 ((7 * (N 144)) + i) (prt (H2_18 0) i))), (mA, aI g 121 A2_18), (mK, aI g 2904 K2_18), (mH, aI g 10 H2_18)]) dX12_takeOne_204 3 rfl rfl (by omega) rfl ?_
              refine r_iinc C (lv' := [(10, vi (i + 1)), (0, .ref hM), (3, vi (H2_18 0)), (9, vi r_99)]) dX12_takeOne_205 3 rfl rfl rfl ?_
              refine r_goto C 173 dX12_takeOne_208 rfl ?_
              refine r_lv (lv' := [(0, .ref hM), (3, vi (H2_18 0)), (9, vi r_99), (10, vi (i + 1))]) [1, 2, 3, 0] rfl ?_
              exact ih_173 (i + 1, zU L1 ((7 * (N 144)) + i) (prt (H2_18 0) i)) (show (0 ≤ (i + 1) ∧ (i + 1) ≤ 6) ∧ ((zU L1 ((7 * (N 144)) + i) (prt (H2_18 0) i)) = ldC Lg (N 144) (H2_18 0) (i + 1)) from ⟨(by omega), (by rw [jL]; exact ldC_s Lg ji.1)⟩) (show 6 - (i + 1) < 6 - i from by omega)
          · skip
            have hNi : MOK wi hi P := by rw [jP]; exact MOK_tk (by omega) hN
            refine r_aload_n C dX12_takeOne_126 0 rfl ?_
            refine gf_X12_7 C dX12_takeOne_127 0 rfl rfl ?_
            refine r_iload C dX12_takeOne_130 10 rfl ?_
            refine r_aload_n C dX12_takeOne_132 0 rfl ?_
            refine r_iload C dX12_takeOne_133 10 rfl ?_
            refine r_iload C dX12_takeOne_135 4 rfl ?_
            refine r_iload C dX12_takeOne_137 5 rfl ?_
            refine r_iload C dX12_takeOne_139 6 rfl ?_
            refine r_iload C dX12_takeOne_141 7 rfl ?_
            refine r_iload C dX12_takeOne_143 8 rfl ?_
            refine r_iload_n C dX12_takeOne_145 1 rfl ?_
            refine k_Vi C kv_X12_169 (fun sz => c_X12_isTold l g hM wi hi mN mC (min (cm + 1) 6) ((ca + 1) % 6) mL sc qu fp mT lm nw nh nr mF mR mD mA ii2_18 wo2_18 wd2_18 oe2_18 mK rm2_18 mH cn2_18 P k (prt (H2_18 0) 0) (prt (H2_18 0) 1) (prt (H2_18 0) 2) (prt (H2_18 0) 3) (prt (H2_18 0) 4) rch hNi (by omega) (by have := hr0; unfold prt; omega) (by have := hr0; unfold prt; omega) (by have := hr0; unfold prt; omega) (by have := hr0; unfold prt; omega) (by omega) sz) dX12_takeOne_146 rfl rfl rfl ⟨rfl, rfl⟩ 0 11 rfl rfl rfl [0, 1] rfl rfl (fun _ => rfl) (ws' := fun u_ => [(hM, oB 11 [vi wi, vi hi, .ref mN, .ref mC, vi (min (cm + 1) 6), vi ((ca + 1) % 6), .ref mL, vi sc, vi qu, vi fp, .ref mT, vi lm, vi nw, vi nh, vi nr, .ref mF, .ref mR, .ref mD, .ref mA, vi ii2_18, vi wo2_18, vi wd2_18, vi oe2_18, .ref mK, vi rm2_18, .ref mH, vi cn2_18]), (mN, aI g 145 P), (mC, aI g 870 (cpC N Cg ca 145)), (mL, aI g 56 Lg), (mA, aI g 121 A2_18), (mK, aI g 2904 K2_18), (mH, aI g 10 H2_18)]) (fun _ => rfl) (fun r_146 u_ p_146 => ?_)
            have p_146 : r_146 = (tdF P (P 142) (LXM P (prt (H2_18 0) 2) (prt (H2_18 0) 3) (prt (H2_18 0) 4)) (LYM P (prt (H2_18 0) 2) (prt (H2_18 0) 3) (prt (H2_18 0) 4)) (P 141) (prt (H2_18 0) 0) (prt (H2_18 0) 1) rch) k := p_146
            have h46 : r_146 = tlN N (H2_18 0) rch k := by rw [p_146, jP]; exact td_tk (by omega)
            have h01 := tlN_01 N (H2_18 0) rch k
            refine r_if_eq C 156 dX12_takeOne_149 rfl (by omega) (fun c_7 => ?_) (fun c_7 => ?_)
            · skip
              refine r_aload_n C dX12_takeOne_156 0 rfl ?_
              refine gf_X12_7 C dX12_takeOne_157 0 rfl rfl ?_
              refine r_iload C dX12_takeOne_160 10 rfl ?_
              refine r_iald C dX12_takeOne_162 1 rfl rfl (by omega) ?_
              refine r_iast C (ws' := [(hM, oB 11 [vi wi, vi hi, .ref mN, .ref mC, vi (min (cm + 1) 6), vi ((ca + 1) % 6), .ref mL, vi sc, vi qu, vi fp, .ref mT, vi lm, vi nw, vi nh, vi nr, .ref mF, .ref mR, .ref mD, .ref mA, vi ii2_18, vi wo2_18, vi wd2_18, vi oe2_18, .ref mK, vi rm2_18, .ref mH, vi cn2_18]), (mN, aI g 145 (zU P k (P k))), (mC, aI g 870 (cpC N Cg ca 145)), (mL, aI g 56 Lg), (mA, aI g 121 A2_18), (mK, aI g 2904 K2_18), (mH, aI g 10 H2_18)]) dX12_takeOne_163 1 rfl rfl (by omega) rfl ?_
              refine r_iinc C (lv' := [(10, vi (k + 1)), (0, .ref hM), (1, vi rch), (2, vi ill), (3, vi (H2_18 0)), (4, vi (prt (H2_18 0) 0)), (5, vi (prt (H2_18 0) 1)), (6, vi (prt (H2_18 0) 2)), (7, vi (prt (H2_18 0) 3)), (8, vi (prt (H2_18 0) 4)), (9, vi r_99)]) dX12_takeOne_164 10 rfl rfl rfl ?_
              refine r_goto C 119 dX12_takeOne_167 rfl ?_
              refine r_lv (lv' := [(0, .ref hM), (1, vi rch), (2, vi ill), (3, vi (H2_18 0)), (4, vi (prt (H2_18 0) 0)), (5, vi (prt (H2_18 0) 1)), (6, vi (prt (H2_18 0) 2)), (7, vi (prt (H2_18 0) 3)), (8, vi (prt (H2_18 0) 4)), (9, vi r_99), (10, vi (k + 1))]) [1, 2, 3, 4, 5, 6, 7, 8, 9, 10, 0] rfl ?_
              exact ih_119 (k + 1, zU P k (P k)) (show (0 ≤ (k + 1) ∧ (k + 1) ≤ 121) ∧ ((zU P k (P k)) = tkC (tlN N (H2_18 0) rch) N (k + 1)) from ⟨(by omega), (by rw [jP]; exact tkC_n jk.1 (by omega))⟩) (show 121 - (k + 1) < 121 - k from by omega)
            · skip
              refine r_iconst C dX12_takeOne_152 ?_
              refine r_goto C 163 dX12_takeOne_153 rfl ?_
              refine r_iast C (ws' := [(hM, oB 11 [vi wi, vi hi, .ref mN, .ref mC, vi (min (cm + 1) 6), vi ((ca + 1) % 6), .ref mL, vi sc, vi qu, vi fp, .ref mT, vi lm, vi nw, vi nh, vi nr, .ref mF, .ref mR, .ref mD, .ref mA, vi ii2_18, vi wo2_18, vi wd2_18, vi oe2_18, .ref mK, vi rm2_18, .ref mH, vi cn2_18]), (mN, aI g 145 (zU P k 0)), (mC, aI g 870 (cpC N Cg ca 145)), (mL, aI g 56 Lg), (mA, aI g 121 A2_18), (mK, aI g 2904 K2_18), (mH, aI g 10 H2_18)]) dX12_takeOne_163 1 rfl rfl (by omega) rfl ?_
              refine r_iinc C (lv' := [(10, vi (k + 1)), (0, .ref hM), (1, vi rch), (2, vi ill), (3, vi (H2_18 0)), (4, vi (prt (H2_18 0) 0)), (5, vi (prt (H2_18 0) 1)), (6, vi (prt (H2_18 0) 2)), (7, vi (prt (H2_18 0) 3)), (8, vi (prt (H2_18 0) 4)), (9, vi r_99)]) dX12_takeOne_164 10 rfl rfl rfl ?_
              refine r_goto C 119 dX12_takeOne_167 rfl ?_
              refine r_lv (lv' := [(0, .ref hM), (1, vi rch), (2, vi ill), (3, vi (H2_18 0)), (4, vi (prt (H2_18 0) 0)), (5, vi (prt (H2_18 0) 1)), (6, vi (prt (H2_18 0) 2)), (7, vi (prt (H2_18 0) 3)), (8, vi (prt (H2_18 0) 4)), (9, vi r_99), (10, vi (k + 1))]) [1, 2, 3, 4, 5, 6, 7, 8, 9, 10, 0] rfl ?_
              exact ih_119 (k + 1, zU P k 0) (show (0 ≤ (k + 1) ∧ (k + 1) ≤ 121) ∧ ((zU P k 0) = tkC (tlN N (H2_18 0) rch) N (k + 1)) from ⟨(by omega), (by rw [jP]; exact tkC_1 jk.1 (by omega))⟩) (show 121 - (k + 1) < 121 - k from by omega)
        · skip
          refine r_bipush C dX12_takeOne_109 rfl ?_
          exact e_i C (N, Cg, Lg, ca, cm, ii2_18, wo2_18, wd2_18, oe2_18, A2_18, K2_18, rm2_18, H2_18, cn2_18) dX12_takeOne_111 (show (∀ k : Int, 0 ≤ k → k < 121 → -2147483648 ≤ A2_18 k ∧ A2_18 k ≤ 2147483647) ∧ (((-2) = -3 ∧ N 144 = 8 ∧ ((N, Cg, ca, cm, Lg) : MST) = (N, Cg, ca, cm, Lg)) ∨ (N 144 < 8 ∧ (((-2) = -2 ∧ TMX wi hi rch ill N ∧ ((N, Cg, ca, cm, Lg) : MST) = (N, Cg, ca, cm, Lg)) ∨ (0 < (-2) ∧ (-2) ≤ 121 ∧ ∃ r0 : Int, TMO wi hi rch ill N r0 (-2) ∧ ((N, Cg, ca, cm, Lg) : MST) = stM rch r0 (-2) (N, Cg, ca, cm, Lg))))) from ⟨p_18.1, Or.inr ⟨by omega, Or.inl ⟨rfl, ⟨H2_18, cn2_18, hTP, Or.inr (Or.inr (by omega))⟩, rfl⟩⟩⟩) rfl
      · skip
        refine r_bipush C dX12_takeOne_42 rfl ?_
        exact e_i C (N, Cg, Lg, ca, cm, ii2_18, wo2_18, wd2_18, oe2_18, A2_18, K2_18, rm2_18, H2_18, cn2_18) dX12_takeOne_44 (show (∀ k : Int, 0 ≤ k → k < 121 → -2147483648 ≤ A2_18 k ∧ A2_18 k ≤ 2147483647) ∧ (((-2) = -3 ∧ N 144 = 8 ∧ ((N, Cg, ca, cm, Lg) : MST) = (N, Cg, ca, cm, Lg)) ∨ (N 144 < 8 ∧ (((-2) = -2 ∧ TMX wi hi rch ill N ∧ ((N, Cg, ca, cm, Lg) : MST) = (N, Cg, ca, cm, Lg)) ∨ (0 < (-2) ∧ (-2) ≤ 121 ∧ ∃ r0 : Int, TMO wi hi rch ill N r0 (-2) ∧ ((N, Cg, ca, cm, Lg) : MST) = stM rch r0 (-2) (N, Cg, ca, cm, Lg))))) from ⟨p_18.1, Or.inr ⟨by omega, Or.inl ⟨rfl, ⟨H2_18, cn2_18, hTP, by first | exact Or.inl (by omega) | exact Or.inr (Or.inl (by omega))⟩, rfl⟩⟩⟩) rfl
  · skip
    refine r_bipush C dX12_takeOne_13 rfl ?_
    exact e_i C (N, Cg, Lg, ca, cm, ii, wo, wd, oe, Fa, Kr, rm, H, cn) dX12_takeOne_15 (show (∀ k : Int, 0 ≤ k → k < 121 → -2147483648 ≤ Fa k ∧ Fa k ≤ 2147483647) ∧ (((-3) = -3 ∧ N 144 = 8 ∧ ((N, Cg, ca, cm, Lg) : MST) = (N, Cg, ca, cm, Lg)) ∨ (N 144 < 8 ∧ (((-3) = -2 ∧ TMX wi hi rch ill N ∧ ((N, Cg, ca, cm, Lg) : MST) = (N, Cg, ca, cm, Lg)) ∨ (0 < (-3) ∧ (-3) ≤ 121 ∧ ∃ r0 : Int, TMO wi hi rch ill N r0 (-3) ∧ ((N, Cg, ca, cm, Lg) : MST) = stM rch r0 (-3) (N, Cg, ca, cm, Lg))))) from ⟨kFa, Or.inl ⟨rfl, by omega, rfl⟩⟩) rfl
set_option maxHeartbeats 1000000 in
set_option maxRecDepth 100000 in
theorem c_X12_isTaking (l : Launch) (g : Gx) (rch : Int) (ill : Int) (bbrch : -2147483648 ≤ rch ∧ rch ≤ 2147483647) (bbill : -2147483648 ≤ ill ∧ ill ≤ 2147483647) (sz : Nat) : Met l yX12_isTaking (.code yX12_isTaking cX12_isTaking 2 (some .boolean) :: wsL_law) { frames := 1, cells := 0, slots := 0, locals := 22 } (PR g [vi rch, vi ill] [] sz) (PI (S := Unit) g (fun r u_ => (r = 1 ∧ (0 ≤ rch ∧ rch ≤ 3 ∧ 0 ≤ ill ∧ ill ≤ 990)) ∨ (r = 0 ∧ ¬ (0 ≤ rch ∧ rch ≤ 3 ∧ 0 ≤ ill ∧ ill ≤ 990))) (fun u_ => []) [] sz) 0 0 (va_A [] sz) := by
  refine meet (own := RX12) rfl (plainFor_of_name (by decide +kernel)) rfl (fun p_ e_ s_ m_ args_ below_ meth_ c_ C hnm => ?_)
  refine r_at (ws' := []) (lv' := [(0, vi rch), (1, vi ill)]) rfl rfl ?_
  refine r_iload_n C dX12_isTaking_0 0 rfl ?_
  refine r_iconst C dX12_isTaking_1 ?_
  refine r_iconst C dX12_isTaking_2 ?_
  refine k_Si C ks_X12_58 (fun sz => c_X12_in l g rch 0 3 (by omega) (by omega) (by omega) sz) dX12_isTaking_3 rfl rfl rfl ⟨rfl, rfl⟩ [] rfl rfl (fun _ => rfl) (ws' := fun u_ => []) (fun _ => rfl) (fun r_3 u_ p_3 => ?_)
  have p_3 : (r_3 = 1 ∧ 0 ≤ rch ∧ rch ≤ 3) ∨ (r_3 = 0 ∧ ¬ (0 ≤ rch ∧ rch ≤ 3)) := p_3
  refine r_if_eq C 24 dX12_isTaking_6 rfl (by omega) (fun c_1 => ?_) (fun c_1 => ?_)
  · skip
    refine r_iconst C dX12_isTaking_24 ?_
    exact e_z C () dX12_isTaking_25 (by omega) (show (0 = 1 ∧ (0 ≤ rch ∧ rch ≤ 3 ∧ 0 ≤ ill ∧ ill ≤ 990)) ∨ (0 = 0 ∧ ¬ (0 ≤ rch ∧ rch ≤ 3 ∧ 0 ≤ ill ∧ ill ≤ 990)) from by omega) rfl
  · skip
    refine r_iload_n C dX12_isTaking_9 1 rfl ?_
    refine r_iconst C dX12_isTaking_10 ?_
    refine r_sipush C dX12_isTaking_11 rfl ?_
    refine k_Si C ks_X12_58 (fun sz => c_X12_in l g ill 0 990 (by omega) (by omega) (by omega) sz) dX12_isTaking_14 rfl rfl rfl ⟨rfl, rfl⟩ [] rfl rfl (fun _ => rfl) (ws' := fun u_ => []) (fun _ => rfl) (fun r_14 u_ p_14 => ?_)
    have p_14 : (r_14 = 1 ∧ 0 ≤ ill ∧ ill ≤ 990) ∨ (r_14 = 0 ∧ ¬ (0 ≤ ill ∧ ill ≤ 990)) := p_14
    refine r_if_eq C 24 dX12_isTaking_17 rfl (by omega) (fun c_2 => ?_) (fun c_2 => ?_)
    · skip
      refine r_iconst C dX12_isTaking_24 ?_
      exact e_z C () dX12_isTaking_25 (by omega) (show (0 = 1 ∧ (0 ≤ rch ∧ rch ≤ 3 ∧ 0 ≤ ill ∧ ill ≤ 990)) ∨ (0 = 0 ∧ ¬ (0 ≤ rch ∧ rch ≤ 3 ∧ 0 ≤ ill ∧ ill ≤ 990)) from by omega) rfl
    · skip
      refine r_iconst C dX12_isTaking_20 ?_
      refine r_goto C 25 dX12_isTaking_21 rfl ?_
      exact e_z C () dX12_isTaking_25 (by omega) (show (1 = 1 ∧ (0 ≤ rch ∧ rch ≤ 3 ∧ 0 ≤ ill ∧ ill ≤ 990)) ∨ (1 = 0 ∧ ¬ (0 ≤ rch ∧ rch ≤ 3 ∧ 0 ≤ ill ∧ ill ≤ 990)) from by omega) rfl
set_option maxHeartbeats 1000000 in
set_option maxRecDepth 100000 in
theorem c_X12_take (l : Launch) (g : Gx) (hM : Nat) (wi : Int) (hi : Int) (mN : Nat) (mC : Nat) (cm : Int) (ca : Int) (mL : Nat) (sc : Int) (qu : Int) (fp : Int) (mT : Nat) (lm : Int) (nw : Int) (nh : Int) (nr : Int) (mF : Nat) (mR : Nat) (mD : Nat) (mA : Nat) (ii : Int) (wo : Int) (wd : Int) (oe : Int) (mK : Nat) (rm : Int) (mH : Nat) (cn : Int) (N : Int → Int) (Cg : Int → Int) (Lg : Int → Int) (Fa : Int → Int) (Kr : Int → Int) (H : Int → Int) (rch : Int) (ill : Int) (hN : MOK wi hi N) (kca : 0 ≤ ca ∧ ca ≤ 5) (kcm : 0 ≤ cm ∧ cm ≤ 6) (kFa : ∀ k : Int, 0 ≤ k → k < 121 → -2147483648 ≤ Fa k ∧ Fa k ≤ 2147483647) (bbrch : -2147483648 ≤ rch ∧ rch ≤ 2147483647) (bbill : -2147483648 ≤ ill ∧ ill ≤ 2147483647) (sz : Nat) : Met l yX12_take (.code yX12_take cX12_take 3 (some .int) :: wsL_law) { frames := 7, cells := 0, slots := 0, locals := 178 } (PR g [.ref hM, vi rch, vi ill] [(hM, oB 11 [vi wi, vi hi, .ref mN, .ref mC, vi cm, vi ca, .ref mL, vi sc, vi qu, vi fp, .ref mT, vi lm, vi nw, vi nh, vi nr, .ref mF, .ref mR, .ref mD, .ref mA, vi ii, vi wo, vi wd, vi oe, .ref mK, vi rm, .ref mH, vi cn]), (mN, aI g 145 N), (mC, aI g 870 Cg), (mL, aI g 56 Lg), (mA, aI g 121 Fa), (mK, aI g 2904 Kr), (mH, aI g 10 H)] sz) (PI (S := (Int → Int) × (Int → Int) × (Int → Int) × Int × Int × Int × Int × Int × Int × (Int → Int) × (Int → Int) × Int × (Int → Int) × Int) g (fun r u_ => (∀ k : Int, 0 ≤ k → k < 121 → -2147483648 ≤ u_.2.2.2.2.2.2.2.2.2.1 k ∧ u_.2.2.2.2.2.2.2.2.2.1 k ≤ 2147483647) ∧ ((r = -1 ∧ ¬ (0 ≤ rch ∧ rch ≤ 3 ∧ 0 ≤ ill ∧ ill ≤ 990) ∧ ((u_.1, u_.2.1, u_.2.2.2.1, u_.2.2.2.2.1, u_.2.2.1) : MST) = (N, Cg, ca, cm, Lg)) ∨ ((0 ≤ rch ∧ rch ≤ 3 ∧ 0 ≤ ill ∧ ill ≤ 990) ∧ ((r = -3 ∧ N 144 = 8 ∧ ((u_.1, u_.2.1, u_.2.2.2.1, u_.2.2.2.2.1, u_.2.2.1) : MST) = (N, Cg, ca, cm, Lg)) ∨ (N 144 < 8 ∧ ((r = -2 ∧ TMX wi hi rch ill N ∧ ((u_.1, u_.2.1, u_.2.2.2.1, u_.2.2.2.2.1, u_.2.2.1) : MST) = (N, Cg, ca, cm, Lg)) ∨ (0 < r ∧ r ≤ 121 ∧ ∃ r0 : Int, TMO wi hi rch ill N r0 r ∧ ((u_.1, u_.2.1, u_.2.2.2.1, u_.2.2.2.2.1, u_.2.2.1) : MST) = stM rch r0 r (N, Cg, ca, cm, Lg)))))))) (fun u_ => [(hM, oB 11 [vi wi, vi hi, .ref mN, .ref mC, vi u_.2.2.2.2.1, vi u_.2.2.2.1, .ref mL, vi sc, vi qu, vi fp, .ref mT, vi lm, vi nw, vi nh, vi nr, .ref mF, .ref mR, .ref mD, .ref mA, vi u_.2.2.2.2.2.1, vi u_.2.2.2.2.2.2.1, vi u_.2.2.2.2.2.2.2.1, vi u_.2.2.2.2.2.2.2.2.1, .ref mK, vi u_.2.2.2.2.2.2.2.2.2.2.2.1, .ref mH, vi u_.2.2.2.2.2.2.2.2.2.2.2.2.2]), (mN, aI g 145 u_.1), (mC, aI g 870 u_.2.1), (mL, aI g 56 u_.2.2.1), (mA, aI g 121 u_.2.2.2.2.2.2.2.2.2.1), (mK, aI g 2904 u_.2.2.2.2.2.2.2.2.2.2.1), (mH, aI g 10 u_.2.2.2.2.2.2.2.2.2.2.2.2.1)]) [(hM, oB 11 [vi wi, vi hi, .ref mN, .ref mC, vi cm, vi ca, .ref mL, vi sc, vi qu, vi fp, .ref mT, vi lm, vi nw, vi nh, vi nr, .ref mF, .ref mR, .ref mD, .ref mA, vi ii, vi wo, vi wd, vi oe, .ref mK, vi rm, .ref mH, vi cn]), (mN, aI g 145 N), (mC, aI g 870 Cg), (mL, aI g 56 Lg), (mA, aI g 121 Fa), (mK, aI g 2904 Kr), (mH, aI g 10 H)] sz) 0 0 (va_A [(hM, oB 11 [vi wi, vi hi, .ref mN, .ref mC, vi cm, vi ca, .ref mL, vi sc, vi qu, vi fp, .ref mT, vi lm, vi nw, vi nh, vi nr, .ref mF, .ref mR, .ref mD, .ref mA, vi ii, vi wo, vi wd, vi oe, .ref mK, vi rm, .ref mH, vi cn]), (mN, aI g 145 N), (mC, aI g 870 Cg), (mL, aI g 56 Lg), (mA, aI g 121 Fa), (mK, aI g 2904 Kr), (mH, aI g 10 H)] sz) := by
  refine meet (own := RX12) rfl (plainFor_of_name (by decide +kernel)) rfl (fun p_ e_ s_ m_ args_ below_ meth_ c_ C hnm => ?_)
  refine r_at (ws' := [(hM, oB 11 [vi wi, vi hi, .ref mN, .ref mC, vi cm, vi ca, .ref mL, vi sc, vi qu, vi fp, .ref mT, vi lm, vi nw, vi nh, vi nr, .ref mF, .ref mR, .ref mD, .ref mA, vi ii, vi wo, vi wd, vi oe, .ref mK, vi rm, .ref mH, vi cn]), (mN, aI g 145 N), (mC, aI g 870 Cg), (mL, aI g 56 Lg), (mA, aI g 121 Fa), (mK, aI g 2904 Kr), (mH, aI g 10 H)]) (lv' := [(0, .ref hM), (1, vi rch), (2, vi ill)]) rfl rfl ?_
  refine r_iload_n C dX12_take_0 1 rfl ?_
  refine r_iload_n C dX12_take_1 2 rfl ?_
  refine k_Si C ks_X12_203 (fun sz => c_X12_isTaking l g rch ill (by omega) (by omega) sz) dX12_take_2 rfl rfl rfl ⟨rfl, rfl⟩ [] rfl rfl (fun _ => rfl) (ws' := fun u_ => [(hM, oB 11 [vi wi, vi hi, .ref mN, .ref mC, vi cm, vi ca, .ref mL, vi sc, vi qu, vi fp, .ref mT, vi lm, vi nw, vi nh, vi nr, .ref mF, .ref mR, .ref mD, .ref mA, vi ii, vi wo, vi wd, vi oe, .ref mK, vi rm, .ref mH, vi cn]), (mN, aI g 145 N), (mC, aI g 870 Cg), (mL, aI g 56 Lg), (mA, aI g 121 Fa), (mK, aI g 2904 Kr), (mH, aI g 10 H)]) (fun _ => rfl) (fun r_2 u_ p_2 => ?_)
  have p_2 : (r_2 = 1 ∧ (0 ≤ rch ∧ rch ≤ 3 ∧ 0 ≤ ill ∧ ill ≤ 990)) ∨ (r_2 = 0 ∧ ¬ (0 ≤ rch ∧ rch ≤ 3 ∧ 0 ≤ ill ∧ ill ≤ 990)) := p_2
  refine r_if_eq C 17 dX12_take_5 rfl (by omega) (fun c_1 => ?_) (fun c_1 => ?_)
  · skip
    refine r_iconst C dX12_take_17 ?_
    exact e_i C (N, Cg, Lg, ca, cm, ii, wo, wd, oe, Fa, Kr, rm, H, cn) dX12_take_18 (show (∀ k : Int, 0 ≤ k → k < 121 → -2147483648 ≤ Fa k ∧ Fa k ≤ 2147483647) ∧ (((-1) = -1 ∧ ¬ (0 ≤ rch ∧ rch ≤ 3 ∧ 0 ≤ ill ∧ ill ≤ 990) ∧ ((N, Cg, ca, cm, Lg) : MST) = (N, Cg, ca, cm, Lg)) ∨ ((0 ≤ rch ∧ rch ≤ 3 ∧ 0 ≤ ill ∧ ill ≤ 990) ∧ (((-1) = -3 ∧ N 144 = 8 ∧ ((N, Cg, ca, cm, Lg) : MST) = (N, Cg, ca, cm, Lg)) ∨ (N 144 < 8 ∧ (((-1) = -2 ∧ TMX wi hi rch ill N ∧ ((N, Cg, ca, cm, Lg) : MST) = (N, Cg, ca, cm, Lg)) ∨ (0 < (-1) ∧ (-1) ≤ 121 ∧ ∃ r0 : Int, TMO wi hi rch ill N r0 (-1) ∧ ((N, Cg, ca, cm, Lg) : MST) = stM rch r0 (-1) (N, Cg, ca, cm, Lg))))))) from ⟨kFa, Or.inl ⟨rfl, by omega, rfl⟩⟩) rfl
  · skip
    refine r_aload_n C dX12_take_8 0 rfl ?_
    refine r_iload_n C dX12_take_9 1 rfl ?_
    refine r_iload_n C dX12_take_10 2 rfl ?_
    refine m_Vi C kv_X12_206 (fun sz => c_X12_takeOne l g hM wi hi mN mC cm ca mL sc qu fp mT lm nw nh nr mF mR mD mA ii wo wd oe mK rm mH cn N Cg Lg Fa Kr H rch ill hN kca kcm kFa (by omega) (by omega) sz) dX12_take_11 rfl rfl rfl ⟨rfl, rfl⟩ 0 11 rfl rfl rfl [true, true, true, true, true, true, true] rfl (fun _ => rfl) (ws' := fun u_ => [(hM, oB 11 [vi wi, vi hi, .ref mN, .ref mC, vi u_.2.2.2.2.1, vi u_.2.2.2.1, .ref mL, vi sc, vi qu, vi fp, .ref mT, vi lm, vi nw, vi nh, vi nr, .ref mF, .ref mR, .ref mD, .ref mA, vi u_.2.2.2.2.2.1, vi u_.2.2.2.2.2.2.1, vi u_.2.2.2.2.2.2.2.1, vi u_.2.2.2.2.2.2.2.2.1, .ref mK, vi u_.2.2.2.2.2.2.2.2.2.2.2.1, .ref mH, vi u_.2.2.2.2.2.2.2.2.2.2.2.2.2]), (mN, aI g 145 u_.1), (mC, aI g 870 u_.2.1), (mL, aI g 56 u_.2.2.1), (mA, aI g 121 u_.2.2.2.2.2.2.2.2.2.1), (mK, aI g 2904 u_.2.2.2.2.2.2.2.2.2.2.1), (mH, aI g 10 u_.2.2.2.2.2.2.2.2.2.2.2.2.1)]) (fun _ => rfl) (fun r_11 u_ p_11 => ?_)
    obtain ⟨N2_11, C2_11, L2_11, ca2_11, cm2_11, ii2_11, wo2_11, wd2_11, oe2_11, A2_11, K2_11, rm2_11, H2_11, cn2_11⟩ := u_
    refine r_at (ws' := [(hM, oB 11 [vi wi, vi hi, .ref mN, .ref mC, vi cm2_11, vi ca2_11, .ref mL, vi sc, vi qu, vi fp, .ref mT, vi lm, vi nw, vi nh, vi nr, .ref mF, .ref mR, .ref mD, .ref mA, vi ii2_11, vi wo2_11, vi wd2_11, vi oe2_11, .ref mK, vi rm2_11, .ref mH, vi cn2_11]), (mN, aI g 145 N2_11), (mC, aI g 870 C2_11), (mL, aI g 56 L2_11), (mA, aI g 121 A2_11), (mK, aI g 2904 K2_11), (mH, aI g 10 H2_11)]) (lv' := [(0, .ref hM), (1, vi rch), (2, vi ill)]) rfl rfl ?_
    have p_11 : (∀ k : Int, 0 ≤ k → k < 121 → -2147483648 ≤ A2_11 k ∧ A2_11 k ≤ 2147483647) ∧ ((r_11 = -3 ∧ N 144 = 8 ∧ ((N2_11, C2_11, ca2_11, cm2_11, L2_11) : MST) = (N, Cg, ca, cm, Lg)) ∨ (N 144 < 8 ∧ ((r_11 = -2 ∧ TMX wi hi rch ill N ∧ ((N2_11, C2_11, ca2_11, cm2_11, L2_11) : MST) = (N, Cg, ca, cm, Lg)) ∨ (0 < r_11 ∧ r_11 ≤ 121 ∧ ∃ r0 : Int, TMO wi hi rch ill N r0 r_11 ∧ ((N2_11, C2_11, ca2_11, cm2_11, L2_11) : MST) = stM rch r0 r_11 (N, Cg, ca, cm, Lg))))) := p_11
    refine r_goto C 18 dX12_take_14 rfl ?_
    exact e_i C (N2_11, C2_11, L2_11, ca2_11, cm2_11, ii2_11, wo2_11, wd2_11, oe2_11, A2_11, K2_11, rm2_11, H2_11, cn2_11) dX12_take_18 (show (∀ k : Int, 0 ≤ k → k < 121 → -2147483648 ≤ A2_11 k ∧ A2_11 k ≤ 2147483647) ∧ ((r_11 = -1 ∧ ¬ (0 ≤ rch ∧ rch ≤ 3 ∧ 0 ≤ ill ∧ ill ≤ 990) ∧ ((N2_11, C2_11, ca2_11, cm2_11, L2_11) : MST) = (N, Cg, ca, cm, Lg)) ∨ ((0 ≤ rch ∧ rch ≤ 3 ∧ 0 ≤ ill ∧ ill ≤ 990) ∧ ((r_11 = -3 ∧ N 144 = 8 ∧ ((N2_11, C2_11, ca2_11, cm2_11, L2_11) : MST) = (N, Cg, ca, cm, Lg)) ∨ (N 144 < 8 ∧ ((r_11 = -2 ∧ TMX wi hi rch ill N ∧ ((N2_11, C2_11, ca2_11, cm2_11, L2_11) : MST) = (N, Cg, ca, cm, Lg)) ∨ (0 < r_11 ∧ r_11 ≤ 121 ∧ ∃ r0 : Int, TMO wi hi rch ill N r0 r_11 ∧ ((N2_11, C2_11, ca2_11, cm2_11, L2_11) : MST) = stM rch r0 r_11 (N, Cg, ca, cm, Lg))))))) from ⟨p_11.1, Or.inr ⟨by omega, p_11.2⟩⟩) rfl
