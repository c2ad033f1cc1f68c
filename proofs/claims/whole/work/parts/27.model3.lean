set_option maxHeartbeats 1000000 in
set_option maxRecDepth 100000 in
theorem c_X12_looks (l : Launch) (g : Gx) (hM : Nat) (wi : Int) (hi : Int) (mN : Nat) (mC : Nat) (cm : Int) (ca : Int) (mL : Nat) (sc : Int) (qu : Int) (fp : Int) (mT : Nat) (lm : Int) (nw : Int) (nh : Int) (nr : Int) (mF : Nat) (mR : Nat) (mD : Nat) (mA : Nat) (ii : Int) (wo : Int) (wd : Int) (oe : Int) (mK : Nat) (rm : Int) (mH : Nat) (cn : Int) (N : Int → Int) (Fa : Int → Int) (x : Int) (y : Int) (s : Int) (t : Int) (q : Int) (hN : MOK wi hi N) (kFa : ∀ k : Int, 0 ≤ k → k < 121 → -2147483648 ≤ Fa k ∧ Fa k ≤ 2147483647) (kxy : 0 ≤ x ∧ x ≤ 10 ∧ 0 ≤ y ∧ y ≤ 10) (ks : s = 2 ∨ s = 3 ∨ s = 4) (kt : 0 ≤ t ∧ t ≤ 3) (kf : q = 0 ∨ q = 1) (sz : Nat) : Met l yX12_looks (.code yX12_looks cX12_looks 10 (some .boolean) :: wsL_law) { frames := 2, cells := 0, slots := 0, locals := 47 } (PR g [.ref hM, vi x, vi y, vi s, vi t, vi q] [(hM, oB 11 [vi wi, vi hi, .ref mN, .ref mC, vi cm, vi ca, .ref mL, vi sc, vi qu, vi fp, .ref mT, vi lm, vi nw, vi nh, vi nr, .ref mF, .ref mR, .ref mD, .ref mA, vi ii, vi wo, vi wd, vi oe, .ref mK, vi rm, .ref mH, vi cn]), (mN, aI g 145 N), (mA, aI g 121 Fa)] sz) (PI (S := Int × Int × Int × Int) g (fun r u_ => (r = 1 ∧ FT (LXM N s t q) (LYM N s t q) (N 141) wi hi x y ∧ u_.1 = sI (gFM Fa (LXM N s t q) (LYM N s t q) x y) (N 141) ∧ u_.2.1 = mxM (gFM Fa (LXM N s t q) (LYM N s t q) x y) (N 141).toNat ∧ u_.2.2.1 = wdM (gFM Fa (LXM N s t q) (LYM N s t q) x y) wd (N 141).toNat ∧ u_.2.2.2 = sI (gFM N (LXM N s t q) (LYM N s t q) x y) (N 141)) ∨ (r = 0 ∧ ¬ FT (LXM N s t q) (LYM N s t q) (N 141) wi hi x y)) (fun u_ => [(hM, oB 11 [vi wi, vi hi, .ref mN, .ref mC, vi cm, vi ca, .ref mL, vi sc, vi qu, vi fp, .ref mT, vi lm, vi nw, vi nh, vi nr, .ref mF, .ref mR, .ref mD, .ref mA, vi u_.1, vi u_.2.1, vi u_.2.2.1, vi u_.2.2.2, .ref mK, vi rm, .ref mH, vi cn]), (mN, aI g 145 N), (mA, aI g 121 Fa)]) [(hM, oB 11 [vi wi, vi hi, .ref mN, .ref mC, vi cm, vi ca, .ref mL, vi sc, vi qu, vi fp, .ref mT, vi lm, vi nw, vi nh, vi nr, .ref mF, .ref mR, .ref mD, .ref mA, vi ii, vi wo, vi wd, vi oe, .ref mK, vi rm, .ref mH, vi cn]), (mN, aI g 145 N), (mA, aI g 121 Fa)] sz) 0 0 (va_A [(hM, oB 11 [vi wi, vi hi, .ref mN, .ref mC, vi cm, vi ca, .ref mL, vi sc, vi qu, vi fp, .ref mT, vi lm, vi nw, vi nh, vi nr, .ref mF, .ref mR, .ref mD, .ref mA, vi ii, vi wo, vi wd, vi oe, .ref mK, vi rm, .ref mH, vi cn]), (mN, aI g 145 N), (mA, aI g 121 Fa)] sz) := by
  refine meet (own := RX12) rfl (plainFor_of_name (by decide +kernel)) rfl (fun p_ e_ s_ m_ args_ below_ meth_ c_ C hnm => ?_)
  refine r_at (ws' := [(hM, oB 11 [vi wi, vi hi, .ref mN, .ref mC, vi cm, vi ca, .ref mL, vi sc, vi qu, vi fp, .ref mT, vi lm, vi nw, vi nh, vi nr, .ref mF, .ref mR, .ref mD, .ref mA, vi ii, vi wo, vi wd, vi oe, .ref mK, vi rm, .ref mH, vi cn]), (mN, aI g 145 N), (mA, aI g 121 Fa)]) (lv' := [(0, .ref hM), (1, vi x), (2, vi y), (3, vi s), (4, vi t), (5, vi q)]) rfl rfl ?_
  obtain ⟨nW, nH, n1, nO, nn, nX, nY, nM, nC, nT⟩ := id hN
  refine r_aload_n C dX12_looks_0 0 rfl ?_
  refine r_iconst C dX12_looks_1 ?_
  refine pf_X12_149 C (ws' := [(hM, oB 11 [vi wi, vi hi, .ref mN, .ref mC, vi cm, vi ca, .ref mL, vi sc, vi qu, vi fp, .ref mT, vi lm, vi nw, vi nh, vi nr, .ref mF, .ref mR, .ref mD, .ref mA, vi 0, vi wo, vi wd, vi oe, .ref mK, vi rm, .ref mH, vi cn]), (mN, aI g 145 N), (mA, aI g 121 Fa)]) dX12_looks_2 0 rfl (Nat.le_of_ble_eq_true rfl) rfl ?_
  refine r_aload_n C dX12_looks_5 0 rfl ?_
  refine r_iconst C dX12_looks_6 ?_
  refine pf_X12_152 C (ws' := [(hM, oB 11 [vi wi, vi hi, .ref mN, .ref mC, vi cm, vi ca, .ref mL, vi sc, vi qu, vi fp, .ref mT, vi lm, vi nw, vi nh, vi nr, .ref mF, .ref mR, .ref mD, .ref mA, vi 0, vi (-1), vi wd, vi oe, .ref mK, vi rm, .ref mH, vi cn]), (mN, aI g 145 N), (mA, aI g 121 Fa)]) dX12_looks_7 0 rfl (Nat.le_of_ble_eq_true rfl) rfl ?_
  refine r_aload_n C dX12_looks_10 0 rfl ?_
  refine r_iconst C dX12_looks_11 ?_
  refine pf_X12_155 C (ws' := [(hM, oB 11 [vi wi, vi hi, .ref mN, .ref mC, vi cm, vi ca, .ref mL, vi sc, vi qu, vi fp, .ref mT, vi lm, vi nw, vi nh, vi nr, .ref mF, .ref mR, .ref mD, .ref mA, vi 0, vi (-1), vi wd, vi 0, .ref mK, vi rm, .ref mH, vi cn]), (mN, aI g 145 N), (mA, aI g 121 Fa)]) dX12_looks_12 0 rfl (Nat.le_of_ble_eq_true rfl) rfl ?_
  refine r_iconst C dX12_looks_15 ?_
  refine r_istore C (lv' := [(6, vi 0), (0, .ref hM), (1, vi x), (2, vi y), (3, vi s), (4, vi t), (5, vi q)]) dX12_looks_16 rfl rfl ?_
  refine r_lv (lv' := [(0, .ref hM), (1, vi x), (2, vi y), (3, vi s), (4, vi t), (5, vi q), (6, vi 0)]) [1, 2, 3, 4, 5, 6, 0] rfl ?_
  refine r_loop (σ := Int × Int × Int × Int × Int) (fun z_ => (0 ≤ z_.1 ∧ z_.1 ≤ N 141) ∧ (-2147483648 ≤ z_.2.2.1 ∧ z_.2.2.1 ≤ 2147483647) ∧ (FT (LXM N s t q) (LYM N s t q) z_.1 wi hi x y) ∧ (z_.2.1 = sI (gFM Fa (LXM N s t q) (LYM N s t q) x y) z_.1) ∧ (z_.2.2.1 = mxM (gFM Fa (LXM N s t q) (LYM N s t q) x y) (Int.toNat z_.1)) ∧ (z_.2.2.2.1 = wdM (gFM Fa (LXM N s t q) (LYM N s t q) x y) wd (Int.toNat z_.1)) ∧ (z_.2.2.2.2 = sI (gFM N (LXM N s t q) (LYM N s t q) x y) z_.1)) (fun z_ => N 141 - z_.1) (fun z_ => [(hM, oB 11 [vi wi, vi hi, .ref mN, .ref mC, vi cm, vi ca, .ref mL, vi sc, vi qu, vi fp, .ref mT, vi lm, vi nw, vi nh, vi nr, .ref mF, .ref mR, .ref mD, .ref mA, vi z_.2.1, vi z_.2.2.1, vi z_.2.2.2.1, vi z_.2.2.2.2, .ref mK, vi rm, .ref mH, vi cn]), (mN, aI g 145 N), (mA, aI g 121 Fa)]) (fun z_ => [(0, .ref hM), (1, vi x), (2, vi y), (3, vi s), (4, vi t), (5, vi q), (6, vi z_.1)]) (fun z_ hz => ?_) (fun z_ hz ih_18 => ?_) (((0, 0, -1, wd, 0) : Int × Int × Int × Int × Int)) ?_
  · obtain ⟨d, a, b, c, e⟩ := z_
    obtain ⟨jd, jw, jF, ja, jb, jc, je⟩ := hz
    have jd : 0 ≤ d ∧ d ≤ N 141 := jd
    have jw : -2147483648 ≤ b ∧ b ≤ 2147483647 := jw
    have jF : FT (LXM N s t q) (LYM N s t q) d wi hi x y := jF
    have ja : a = sI (gFM Fa (LXM N s t q) (LYM N s t q) x y) d := ja
    have jb : b = mxM (gFM Fa (LXM N s t q) (LYM N s t q) x y) (Int.toNat d) := jb
    have jc : c = wdM (gFM Fa (LXM N s t q) (LYM N s t q) x y) wd (Int.toNat d) := jc
    have je : e = sI (gFM N (LXM N s t q) (LYM N s t q) x y) d := je
    show (0 : Int) ≤ N 141 - d
    omega
  rotate_left
  · show (0 ≤ 0 ∧ 0 ≤ N 141) ∧ (-2147483648 ≤ (-1) ∧ (-1) ≤ 2147483647) ∧ (FT (LXM N s t q) (LYM N s t q) 0 wi hi x y) ∧ (0 = sI (gFM Fa (LXM N s t q) (LYM N s t q) x y) 0) ∧ ((-1) = mxM (gFM Fa (LXM N s t q) (LYM N s t q) x y) (Int.toNat 0)) ∧ (wd = wdM (gFM Fa (LXM N s t q) (LYM N s t q) x y) wd (Int.toNat 0)) ∧ (0 = sI (gFM N (LXM N s t q) (LYM N s t q) x y) 0)
    exact ⟨(by omega), (by decide), (fun d a b => by omega), (rfl), (rfl), (rfl), (rfl)⟩
  obtain ⟨d, a, b, c, e⟩ := z_
  obtain ⟨jd, jw, jF, ja, jb, jc, je⟩ := hz
  have jd : 0 ≤ d ∧ d ≤ N 141 := jd
  have jw : -2147483648 ≤ b ∧ b ≤ 2147483647 := jw
  have jF : FT (LXM N s t q) (LYM N s t q) d wi hi x y := jF
  have ja : a = sI (gFM Fa (LXM N s t q) (LYM N s t q) x y) d := ja
  have jb : b = mxM (gFM Fa (LXM N s t q) (LYM N s t q) x y) (Int.toNat d) := jb
  have jc : c = wdM (gFM Fa (LXM N s t q) (LYM N s t q) x y) wd (Int.toNat d) := jc
  have je : e = sI (gFM N (LXM N s t q) (LYM N s t q) x y) d := je
  refine r_at (ws' := [(hM, oB 11 [vi wi, vi hi, .ref mN, .ref mC, vi cm, vi ca, .ref mL, vi sc, vi qu, vi fp, .ref mT, vi lm, vi nw, vi nh, vi nr, .ref mF, .ref mR, .ref mD, .ref mA, vi a, vi b, vi c, vi e, .ref mK, vi rm, .ref mH, vi cn]), (mN, aI g 145 N), (mA, aI g 121 Fa)]) (lv' := [(0, .ref hM), (1, vi x), (2, vi y), (3, vi s), (4, vi t), (5, vi q), (6, vi d)]) rfl rfl ?_
  refine r_iload C dX12_looks_18 6 rfl ?_
  refine r_aload_n C dX12_looks_20 0 rfl ?_
  refine gf_X12_7 C dX12_looks_21 0 rfl rfl ?_
  refine r_sipush C dX12_looks_24 rfl ?_
  refine r_iald C dX12_looks_27 1 rfl rfl (by omega) ?_
  refine r_icmp_ge C 170 dX12_looks_28 rfl (by omega) (fun c_1 => ?_) (fun c_1 => ?_)
  · skip
    refine r_iconst C dX12_looks_170 ?_
    exact e_z C (a, b, c, e) dX12_looks_171 (by omega) (show (1 = 1 ∧ FT (LXM N s t q) (LYM N s t q) (N 141) wi hi x y ∧ a = sI (gFM Fa (LXM N s t q) (LYM N s t q) x y) (N 141) ∧ b = mxM (gFM Fa (LXM N s t q) (LYM N s t q) x y) (N 141).toNat ∧ c = wdM (gFM Fa (LXM N s t q) (LYM N s t q) x y) wd (N 141).toNat ∧ e = sI (gFM N (LXM N s t q) (LYM N s t q) x y) (N 141)) ∨ (1 = 0 ∧ ¬ FT (LXM N s t q) (LYM N s t q) (N 141) wi hi x y) from by
      have hd9 : N 141 = d := by omega
      rw [hd9]
      exact Or.inl ⟨rfl, jF, ja, jb, jc, je⟩) rfl
  · skip
    refine r_iload_n C dX12_looks_31 1 rfl ?_
    refine r_aload_n C dX12_looks_32 0 rfl ?_
    refine r_iload C dX12_looks_33 6 rfl ?_
    refine r_iload_n C dX12_looks_35 3 rfl ?_
    refine r_iload C dX12_looks_36 4 rfl ?_
    refine r_iload C dX12_looks_38 5 rfl ?_
    refine k_Vi C kv_X12_143 (fun sz => c_X12_liesX l g hM wi hi mN mC cm ca mL sc qu fp mT lm nw nh nr mF mR mD mA a b c e mK rm mH cn N d s t q (by omega) nX nY ks kt kf sz) dX12_looks_40 rfl rfl rfl ⟨rfl, rfl⟩ 0 11 rfl rfl rfl [0, 1] rfl rfl (fun _ => rfl) (ws' := fun u_ => [(hM, oB 11 [vi wi, vi hi, .ref mN, .ref mC, vi cm, vi ca, .ref mL, vi sc, vi qu, vi fp, .ref mT, vi lm, vi nw, vi nh, vi nr, .ref mF, .ref mR, .ref mD, .ref mA, vi a, vi b, vi c, vi e, .ref mK, vi rm, .ref mH, vi cn]), (mN, aI g 145 N), (mA, aI g 121 Fa)]) (fun _ => rfl) (fun r_40 u_ p_40 => ?_)
    have p_40 : r_40 = lX s t q (N (121 + d)) (N (131 + d)) := p_40
    refine r_eq (y := (LXM N s t q d)) p_40 ?_
    refine r_iadd C dX12_looks_43 ?_
    refine r_istore C (lv' := [(7, vi (x + (LXM N s t q d))), (0, .ref hM), (1, vi x), (2, vi y), (3, vi s), (4, vi t), (5, vi q), (6, vi d)]) dX12_looks_44 rfl rfl ?_
    refine r_iload_n C dX12_looks_46 3 rfl ?_
    refine r_aload_n C dX12_looks_47 1 rfl ?_
    refine r_iload C dX12_looks_48 7 rfl ?_
    refine r_iload_n C dX12_looks_50 4 rfl ?_
    refine r_iload C dX12_looks_51 5 rfl ?_
    refine r_iload C dX12_looks_53 6 rfl ?_
    refine k_Vi C kv_X12_146 (fun sz => c_X12_liesY l g hM wi hi mN mC cm ca mL sc qu fp mT lm nw nh nr mF mR mD mA a b c e mK rm mH cn N d s t q (by omega) nX nY ks kt kf sz) dX12_looks_55 rfl rfl rfl ⟨rfl, rfl⟩ 0 11 rfl rfl rfl [0, 1] rfl rfl (fun _ => rfl) (ws' := fun u_ => [(hM, oB 11 [vi wi, vi hi, .ref mN, .ref mC, vi cm, vi ca, .ref mL, vi sc, vi qu, vi fp, .ref mT, vi lm, vi nw, vi nh, vi nr, .ref mF, .ref mR, .ref mD, .ref mA, vi a, vi b, vi c, vi e, .ref mK, vi rm, .ref mH, vi cn]), (mN, aI g 145 N), (mA, aI g 121 Fa)]) (fun _ => rfl) (fun r_55 u_ p_55 => ?_)
    have p_55 : r_55 = lY s t q (N (121 + d)) (N (131 + d)) := p_55
    refine r_eq (y := (LYM N s t q d)) p_55 ?_
    refine r_iadd C dX12_looks_58 ?_
    refine r_istore C (lv' := [(8, vi (y + (LYM N s t q d))), (7, vi (x + (LXM N s t q d))), (0, .ref hM), (1, vi x), (2, vi y), (3, vi s), (4, vi t), (5, vi q), (6, vi d)]) dX12_looks_59 rfl rfl ?_
    have hbX : -30 ≤ LXM N s t q d ∧ LXM N s t q d ≤ 30 := lX_bd (nX d (by omega) (by omega)) (nY d (by omega) (by omega)) ks
    have hbY : -30 ≤ LYM N s t q d ∧ LYM N s t q d ≤ 30 := lY_bd (nX d (by omega) (by omega)) (nY d (by omega) (by omega)) ks
    refine r_aload_n C dX12_looks_61 2 rfl ?_
    refine r_iload C dX12_looks_62 1 rfl ?_
    refine r_iload C dX12_looks_64 0 rfl ?_
    refine k_Vi C kv_X12_120 (fun sz => c_X12_isCell l g hM wi hi mN mC cm ca mL sc qu fp mT lm nw nh nr mF mR mD mA a b c e mK rm mH cn (x + (LXM N s t q d)) (y + (LYM N s t q d)) nW nH (by omega) (by omega) sz) dX12_looks_66 rfl rfl rfl ⟨rfl, rfl⟩ 0 11 rfl rfl rfl [0] rfl rfl (fun _ => rfl) (ws' := fun u_ => [(hM, oB 11 [vi wi, vi hi, .ref mN, .ref mC, vi cm, vi ca, .ref mL, vi sc, vi qu, vi fp, .ref mT, vi lm, vi nw, vi nh, vi nr, .ref mF, .ref mR, .ref mD, .ref mA, vi a, vi b, vi c, vi e, .ref mK, vi rm, .ref mH, vi cn]), (mN, aI g 145 N), (mA, aI g 121 Fa)]) (fun _ => rfl) (fun r_66 u_ p_66 => ?_)
    have p_66 : (r_66 = 1 ∧ 0 ≤ (x + (LXM N s t q d)) ∧ (x + (LXM N s t q d)) < wi ∧ 0 ≤ (y + (LYM N s t q d)) ∧ (y + (LYM N s t q d)) < hi) ∨ (r_66 = 0 ∧ ¬ (0 ≤ (x + (LXM N s t q d)) ∧ (x + (LXM N s t q d)) < wi ∧ 0 ≤ (y + (LYM N s t q d)) ∧ (y + (LYM N s t q d)) < hi)) := p_66
    refine r_if_ne C 74 dX12_looks_69 rfl (by omega) (fun c_2 => ?_) (fun c_2 => ?_)
    · skip
      have hG : (gFM Fa (LXM N s t q) (LYM N s t q) x y) d = Fa (11 * (y + LYM N s t q d) + (x + LXM N s t q d)) := rfl
      have hH : gFM N (LXM N s t q) (LYM N s t q) x y d = N (11 * (y + LYM N s t q d) + (x + LXM N s t q d)) := rfl
      have hFd := kFa (11 * (y + LYM N s t q d) + (x + LXM N s t q d)) (by omega) (by omega)
      refine r_aload_n C dX12_looks_74 2 rfl ?_
      refine gf_X12_35 C dX12_looks_75 0 rfl rfl ?_
      refine r_iload C dX12_looks_78 1 rfl ?_
      refine r_iload C dX12_looks_80 0 rfl ?_
      refine k_Si C ks_X12_50 (fun sz => c_X12_at l g (x + (LXM N s t q d)) (y + (LYM N s t q d)) sz) dX12_looks_82 rfl rfl rfl ⟨rfl, rfl⟩ [] rfl rfl (fun _ => rfl) (ws' := fun u_ => [(hM, oB 11 [vi wi, vi hi, .ref mN, .ref mC, vi cm, vi ca, .ref mL, vi sc, vi qu, vi fp, .ref mT, vi lm, vi nw, vi nh, vi nr, .ref mF, .ref mR, .ref mD, .ref mA, vi a, vi b, vi c, vi e, .ref mK, vi rm, .ref mH, vi cn]), (mN, aI g 145 N), (mA, aI g 121 Fa)]) (fun _ => rfl) (fun r_82 u_ p_82 => ?_)
      have p_82 : r_82 = 11 * (y + (LYM N s t q d)) + (x + (LXM N s t q d)) := p_82
      refine r_eq (y := (11 * (y + LYM N s t q d) + (x + LXM N s t q d))) p_82 ?_
      refine r_iald C dX12_looks_85 2 rfl rfl (by omega) ?_
      refine r_istore C (lv' := [(9, vi (Fa (11 * (y + LYM N s t q d) + (x + LXM N s t q d)))), (8, vi (y + (LYM N s t q d))), (7, vi (x + (LXM N s t q d))), (0, .ref hM), (1, vi x), (2, vi y), (3, vi s), (4, vi t), (5, vi q), (6, vi d)]) dX12_looks_86 rfl rfl ?_
      refine r_aload_n C dX12_looks_88 3 rfl ?_
      refine r_dup C dX12_looks_89 rfl ?_
      refine gf_X12_149 C dX12_looks_90 0 rfl rfl ?_
      refine r_iload C dX12_looks_93 0 rfl ?_
      refine r_iadd C dX12_looks_95 ?_
      refine pf_X12_149 C (ws' := [(hM, oB 11 [vi wi, vi hi, .ref mN, .ref mC, vi cm, vi ca, .ref mL, vi sc, vi qu, vi fp, .ref mT, vi lm, vi nw, vi nh, vi nr, .ref mF, .ref mR, .ref mD, .ref mA, vi (a + (Fa (11 * (y + LYM N s t q d) + (x + LXM N s t q d)))), vi b, vi c, vi e, .ref mK, vi rm, .ref mH, vi cn]), (mN, aI g 145 N), (mA, aI g 121 Fa)]) dX12_looks_96 0 rfl (Nat.le_of_ble_eq_true rfl) rfl ?_
      refine r_aload_n C dX12_looks_99 3 rfl ?_
      refine r_iload C dX12_looks_100 0 rfl ?_
      refine r_aload_n C dX12_looks_102 3 rfl ?_
      refine gf_X12_152 C dX12_looks_103 0 rfl rfl ?_
      refine r_icmp_le C 114 dX12_looks_106 rfl (by omega) (fun c_3 => ?_) (fun c_3 => ?_)
      · skip
        refine r_aload_n C dX12_looks_114 3 rfl ?_
        refine gf_X12_158 C dX12_looks_115 0 rfl rfl ?_
        refine pf_X12_158 C (ws' := [(hM, oB 11 [vi wi, vi hi, .ref mN, .ref mC, vi cm, vi ca, .ref mL, vi sc, vi qu, vi fp, .ref mT, vi lm, vi nw, vi nh, vi nr, .ref mF, .ref mR, .ref mD, .ref mA, vi (a + (Fa (11 * (y + LYM N s t q d) + (x + LXM N s t q d)))), vi b, vi c, vi e, .ref mK, vi rm, .ref mH, vi cn]), (mN, aI g 145 N), (mA, aI g 121 Fa)]) dX12_looks_118 0 rfl (Nat.le_of_ble_eq_true rfl) rfl ?_
        refine r_aload_n C dX12_looks_121 3 rfl ?_
        refine r_iload C dX12_looks_122 0 rfl ?_
        refine r_aload_n C dX12_looks_124 3 rfl ?_
        refine gf_X12_152 C dX12_looks_125 0 rfl rfl ?_
        refine r_icmp_le C 136 dX12_looks_128 rfl (by omega) (fun c_4 => ?_) (fun c_4 => ?_)
        · skip
          refine r_aload_n C dX12_looks_136 3 rfl ?_
          refine gf_X12_152 C dX12_looks_137 0 rfl rfl ?_
          refine pf_X12_152 C (ws' := [(hM, oB 11 [vi wi, vi hi, .ref mN, .ref mC, vi cm, vi ca, .ref mL, vi sc, vi qu, vi fp, .ref mT, vi lm, vi nw, vi nh, vi nr, .ref mF, .ref mR, .ref mD, .ref mA, vi (a + (Fa (11 * (y + LYM N s t q d) + (x + LXM N s t q d)))), vi b, vi c, vi e, .ref mK, vi rm, .ref mH, vi cn]), (mN, aI g 145 N), (mA, aI g 121 Fa)]) dX12_looks_140 0 rfl (Nat.le_of_ble_eq_true rfl) rfl ?_
          refine r_aload_n C dX12_looks_143 3 rfl ?_
          refine r_dup C dX12_looks_144 rfl ?_
          refine gf_X12_155 C dX12_looks_145 0 rfl rfl ?_
          refine r_aload_n C dX12_looks_148 3 rfl ?_
          refine gf_X12_7 C dX12_looks_149 0 rfl rfl ?_
          refine r_iload C dX12_looks_152 2 rfl ?_
          refine r_iload C dX12_looks_154 1 rfl ?_
          refine k_Si C ks_X12_50 (fun sz => c_X12_at l g (x + (LXM N s t q d)) (y + (LYM N s t q d)) sz) dX12_looks_156 rfl rfl rfl ⟨rfl, rfl⟩ [] rfl rfl (fun _ => rfl) (ws' := fun u_ => [(hM, oB 11 [vi wi, vi hi, .ref mN, .ref mC, vi cm, vi ca, .ref mL, vi sc, vi qu, vi fp, .ref mT, vi lm, vi nw, vi nh, vi nr, .ref mF, .ref mR, .ref mD, .ref mA, vi (a + (Fa (11 * (y + LYM N s t q d) + (x + LXM N s t q d)))), vi b, vi c, vi e, .ref mK, vi rm, .ref mH, vi cn]), (mN, aI g 145 N), (mA, aI g 121 Fa)]) (fun _ => rfl) (fun r_156 u_ p_156 => ?_)
          have p_156 : r_156 = 11 * (y + (LYM N s t q d)) + (x + (LXM N s t q d)) := p_156
          refine r_eq (y := (11 * (y + LYM N s t q d) + (x + LXM N s t q d))) p_156 ?_
          refine r_iald C dX12_looks_159 1 rfl rfl (by omega) ?_
          refine r_iadd C dX12_looks_160 ?_
          refine pf_X12_155 C (ws' := [(hM, oB 11 [vi wi, vi hi, .ref mN, .ref mC, vi cm, vi ca, .ref mL, vi sc, vi qu, vi fp, .ref mT, vi lm, vi nw, vi nh, vi nr, .ref mF, .ref mR, .ref mD, .ref mA, vi (a + (Fa (11 * (y + LYM N s t q d) + (x + LXM N s t q d)))), vi b, vi c, vi (e + (N (11 * (y + LYM N s t q d) + (x + LXM N s t q d)))), .ref mK, vi rm, .ref mH, vi cn]), (mN, aI g 145 N), (mA, aI g 121 Fa)]) dX12_looks_161 0 rfl (Nat.le_of_ble_eq_true rfl) rfl ?_
          refine r_iinc C (lv' := [(6, vi (d + 1)), (9, vi (Fa (11 * (y + LYM N s t q d) + (x + LXM N s t q d)))), (8, vi (y + (LYM N s t q d))), (7, vi (x + (LXM N s t q d))), (0, .ref hM), (1, vi x), (2, vi y), (3, vi s), (4, vi t), (5, vi q)]) dX12_looks_164 9 rfl rfl rfl ?_
          refine r_goto C 18 dX12_looks_167 rfl ?_
          refine r_lv (lv' := [(0, .ref hM), (1, vi x), (2, vi y), (3, vi s), (4, vi t), (5, vi q), (6, vi (d + 1))]) [4, 5, 6, 7, 8, 9, 0] rfl ?_
          exact ih_18 (d + 1, a + (Fa (11 * (y + LYM N s t q d) + (x + LXM N s t q d))), b, c, e + (N (11 * (y + LYM N s t q d) + (x + LXM N s t q d)))) (show (0 ≤ (d + 1) ∧ (d + 1) ≤ N 141) ∧ (-2147483648 ≤ b ∧ b ≤ 2147483647) ∧ (FT (LXM N s t q) (LYM N s t q) (d + 1) wi hi x y) ∧ ((a + (Fa (11 * (y + LYM N s t q d) + (x + LXM N s t q d)))) = sI (gFM Fa (LXM N s t q) (LYM N s t q) x y) (d + 1)) ∧ (b = mxM (gFM Fa (LXM N s t q) (LYM N s t q) x y) (Int.toNat (d + 1))) ∧ (c = wdM (gFM Fa (LXM N s t q) (LYM N s t q) x y) wd (Int.toNat (d + 1))) ∧ ((e + (N (11 * (y + LYM N s t q d) + (x + LXM N s t q d)))) = sI (gFM N (LXM N s t q) (LYM N s t q) x y) (d + 1)) from ⟨(by omega), (by omega), (fun d9 a9 b9 => by
      by_cases e9 : d9 = d
      · subst e9; omega
      · exact jF d9 a9 (by omega)), (by rw [sI_s _ jd.1, ← ja, hG]), (by rw [mxM_s _ jd.1, ← jb, hG]; first | (exfalso; omega) | rw [if_pos (by omega)] | rw [if_neg (by omega)]), (by rw [wdM_s _ _ jd.1, ← jb, ← jc, hG]; first | (exfalso; omega) | rw [if_pos (by omega)] | rw [if_neg (by omega)]), (by rw [sI_s _ jd.1, ← je, hH])⟩) (show N 141 - (d + 1) < N 141 - d from by omega)
        · skip
          refine r_iload C dX12_looks_131 0 rfl ?_
          refine r_goto C 140 dX12_looks_133 rfl ?_
          refine pf_X12_152 C (ws' := [(hM, oB 11 [vi wi, vi hi, .ref mN, .ref mC, vi cm, vi ca, .ref mL, vi sc, vi qu, vi fp, .ref mT, vi lm, vi nw, vi nh, vi nr, .ref mF, .ref mR, .ref mD, .ref mA, vi (a + (Fa (11 * (y + LYM N s t q d) + (x + LXM N s t q d)))), vi (Fa (11 * (y + LYM N s t q d) + (x + LXM N s t q d))), vi c, vi e, .ref mK, vi rm, .ref mH, vi cn]), (mN, aI g 145 N), (mA, aI g 121 Fa)]) dX12_looks_140 0 rfl (Nat.le_of_ble_eq_true rfl) rfl ?_
          refine r_aload_n C dX12_looks_143 3 rfl ?_
          refine r_dup C dX12_looks_144 rfl ?_
          refine gf_X12_155 C dX12_looks_145 0 rfl rfl ?_
          refine r_aload_n C dX12_looks_148 3 rfl ?_
          refine gf_X12_7 C dX12_looks_149 0 rfl rfl ?_
          refine r_iload C dX12_looks_152 2 rfl ?_
          refine r_iload C dX12_looks_154 1 rfl ?_
          refine k_Si C ks_X12_50 (fun sz => c_X12_at l g (x + (LXM N s t q d)) (y + (LYM N s t q d)) sz) dX12_looks_156 rfl rfl rfl ⟨rfl, rfl⟩ [] rfl rfl (fun _ => rfl) (ws' := fun u_ => [(hM, oB 11 [vi wi, vi hi, .ref mN, .ref mC, vi cm, vi ca, .ref mL, vi sc, vi qu, vi fp, .ref mT, vi lm, vi nw, vi nh, vi nr, .ref mF, .ref mR, .ref mD, .ref mA, vi (a + (Fa (11 * (y + LYM N s t q d) + (x + LXM N s t q d)))), vi (Fa (11 * (y + LYM N s t q d) + (x + LXM N s t q d))), vi c, vi e, .ref mK, vi rm, .ref mH, vi cn]), (mN, aI g 145 N), (mA, aI g 121 Fa)]) (fun _ => rfl) (fun r_156 u_ p_156 => ?_)
          have p_156 : r_156 = 11 * (y + (LYM N s t q d)) + (x + (LXM N s t q d)) := p_156
          refine r_eq (y := (11 * (y + LYM N s t q d) + (x + LXM N s t q d))) p_156 ?_
          refine r_iald C dX12_looks_159 1 rfl rfl (by omega) ?_
          refine r_iadd C dX12_looks_160 ?_
          refine pf_X12_155 C (ws' := [(hM, oB 11 [vi wi, vi hi, .ref mN, .ref mC, vi cm, vi ca, .ref mL, vi sc, vi qu, vi fp, .ref mT, vi lm, vi nw, vi nh, vi nr, .ref mF, .ref mR, .ref mD, .ref mA, vi (a + (Fa (11 * (y + LYM N s t q d) + (x + LXM N s t q d)))), vi (Fa (11 * (y + LYM N s t q d) + (x + LXM N s t q d))), vi c, vi (e + (N (11 * (y + LYM N s t q d) + (x + LXM N s t q d)))), .ref mK, vi rm, .ref mH, vi cn]), (mN, aI g 145 N), (mA, aI g 121 Fa)]) dX12_looks_161 0 rfl (Nat.le_of_ble_eq_true rfl) rfl ?_
          refine r_iinc C (lv' := [(6, vi (d + 1)), (9, vi (Fa (11 * (y + LYM N s t q d) + (x + LXM N s t q d)))), (8, vi (y + (LYM N s t q d))), (7, vi (x + (LXM N s t q d))), (0, .ref hM), (1, vi x), (2, vi y), (3, vi s), (4, vi t), (5, vi q)]) dX12_looks_164 9 rfl rfl rfl ?_
          refine r_goto C 18 dX12_looks_167 rfl ?_
          refine r_lv (lv' := [(0, .ref hM), (1, vi x), (2, vi y), (3, vi s), (4, vi t), (5, vi q), (6, vi (d + 1))]) [4, 5, 6, 7, 8, 9, 0] rfl ?_
          exact ih_18 (d + 1, a + (Fa (11 * (y + LYM N s t q d) + (x + LXM N s t q d))), Fa (11 * (y + LYM N s t q d) + (x + LXM N s t q d)), c, e + (N (11 * (y + LYM N s t q d) + (x + LXM N s t q d)))) (show (0 ≤ (d + 1) ∧ (d + 1) ≤ N 141) ∧ (-2147483648 ≤ (Fa (11 * (y + LYM N s t q d) + (x + LXM N s t q d))) ∧ (Fa (11 * (y + LYM N s t q d) + (x + LXM N s t q d))) ≤ 2147483647) ∧ (FT (LXM N s t q) (LYM N s t q) (d + 1) wi hi x y) ∧ ((a + (Fa (11 * (y + LYM N s t q d) + (x + LXM N s t q d)))) = sI (gFM Fa (LXM N s t q) (LYM N s t q) x y) (d + 1)) ∧ ((Fa (11 * (y + LYM N s t q d) + (x + LXM N s t q d))) = mxM (gFM Fa (LXM N s t q) (LYM N s t q) x y) (Int.toNat (d + 1))) ∧ (c = wdM (gFM Fa (LXM N s t q) (LYM N s t q) x y) wd (Int.toNat (d + 1))) ∧ ((e + (N (11 * (y + LYM N s t q d) + (x + LXM N s t q d)))) = sI (gFM N (LXM N s t q) (LYM N s t q) x y) (d + 1)) from ⟨(by omega), (by omega), (fun d9 a9 b9 => by
      by_cases e9 : d9 = d
      · subst e9; omega
      · exact jF d9 a9 (by omega)), (by rw [sI_s _ jd.1, ← ja, hG]), (by rw [mxM_s _ jd.1, ← jb, hG]; first | (exfalso; omega) | rw [if_pos (by omega)] | rw [if_neg (by omega)]), (by rw [wdM_s _ _ jd.1, ← jb, ← jc, hG]; first | (exfalso; omega) | rw [if_pos (by omega)] | rw [if_neg (by omega)]), (by rw [sI_s _ jd.1, ← je, hH])⟩) (show N 141 - (d + 1) < N 141 - d from by omega)
      · skip
        refine r_iload C dX12_looks_109 9 rfl ?_
        refine r_goto C 118 dX12_looks_111 rfl ?_
        refine pf_X12_158 C (ws' := [(hM, oB 11 [vi wi, vi hi, .ref mN, .ref mC, vi cm, vi ca, .ref mL, vi sc, vi qu, vi fp, .ref mT, vi lm, vi nw, vi nh, vi nr, .ref mF, .ref mR, .ref mD, .ref mA, vi (a + (Fa (11 * (y + LYM N s t q d) + (x + LXM N s t q d)))), vi b, vi d, vi e, .ref mK, vi rm, .ref mH, vi cn]), (mN, aI g 145 N), (mA, aI g 121 Fa)]) dX12_looks_118 0 rfl (Nat.le_of_ble_eq_true rfl) rfl ?_
        refine r_aload_n C dX12_looks_121 3 rfl ?_
        refine r_iload C dX12_looks_122 0 rfl ?_
        refine r_aload_n C dX12_looks_124 3 rfl ?_
        refine gf_X12_152 C dX12_looks_125 0 rfl rfl ?_
        refine r_icmp_le C 136 dX12_looks_128 rfl (by omega) (fun c_5 => ?_) (fun c_5 => ?_)
        · skip
          refine r_aload_n C dX12_looks_136 3 rfl ?_
          refine gf_X12_152 C dX12_looks_137 0 rfl rfl ?_
          refine pf_X12_152 C (ws' := [(hM, oB 11 [vi wi, vi hi, .ref mN, .ref mC, vi cm, vi ca, .ref mL, vi sc, vi qu, vi fp, .ref mT, vi lm, vi nw, vi nh, vi nr, .ref mF, .ref mR, .ref mD, .ref mA, vi (a + (Fa (11 * (y + LYM N s t q d) + (x + LXM N s t q d)))), vi b, vi d, vi e, .ref mK, vi rm, .ref mH, vi cn]), (mN, aI g 145 N), (mA, aI g 121 Fa)]) dX12_looks_140 0 rfl (Nat.le_of_ble_eq_true rfl) rfl ?_
          refine r_aload_n C dX12_looks_143 3 rfl ?_
          refine r_dup C dX12_looks_144 rfl ?_
          refine gf_X12_155 C dX12_looks_145 0 rfl rfl ?_
          refine r_aload_n C dX12_looks_148 3 rfl ?_
          refine gf_X12_7 C dX12_looks_149 0 rfl rfl ?_
          refine r_iload C dX12_looks_152 2 rfl ?_
          refine r_iload C dX12_looks_154 1 rfl ?_
          refine k_Si C ks_X12_50 (fun sz => c_X12_at l g (x + (LXM N s t q d)) (y + (LYM N s t q d)) sz) dX12_looks_156 rfl rfl rfl ⟨rfl, rfl⟩ [] rfl rfl (fun _ => rfl) (ws' := fun u_ => [(hM, oB 11 [vi wi, vi hi, .ref mN, .ref mC, vi cm, vi ca, .ref mL, vi sc, vi qu, vi fp, .ref mT, vi lm, vi nw, vi nh, vi nr, .ref mF, .ref mR, .ref mD, .ref mA, vi (a + (Fa (11 * (y + LYM N s t q d) + (x + LXM N s t q d)))), vi b, vi d, vi e, .ref mK, vi rm, .ref mH, vi cn]), (mN, aI g 145 N), (mA, aI g 121 Fa)]) (fun _ => rfl) (fun r_156 u_ p_156 => ?_)
          have p_156 : r_156 = 11 * (y + (LYM N s t q d)) + (x + (LXM N s t q d)) := p_156
          refine r_eq (y := (11 * (y + LYM N s t q d) + (x + LXM N s t q d))) p_156 ?_
          refine r_iald C dX12_looks_159 1 rfl rfl (by omega) ?_
          refine r_iadd C dX12_looks_160 ?_
          refine pf_X12_155 C (ws' := [(hM, oB 11 [vi wi, vi hi, .ref mN, .ref mC, vi cm, vi ca, .ref mL, vi sc, vi qu, vi fp, .ref mT, vi lm, vi nw, vi nh, vi nr, .ref mF, .ref mR, .ref mD, .ref mA, vi (a + (Fa (11 * (y + LYM N s t q d) + (x + LXM N s t q d)))), vi b, vi d, vi (e + (N (11 * (y + LYM N s t q d) + (x + LXM N s t q d)))), .ref mK, vi rm, .ref mH, vi cn]), (mN, aI g 145 N), (mA, aI g 121 Fa)]) dX12_looks_161 0 rfl (Nat.le_of_ble_eq_true rfl) rfl ?_
          refine r_iinc C (lv' := [(6, vi (d + 1)), (9, vi (Fa (11 * (y + LYM N s t q d) + (x + LXM N s t q d)))), (8, vi (y + (LYM N s t q d))), (7, vi (x + (LXM N s t q d))), (0, .ref hM), (1, vi x), (2, vi y), (3, vi s), (4, vi t), (5, vi q)]) dX12_looks_164 9 rfl rfl rfl ?_
          refine r_goto C 18 dX12_looks_167 rfl ?_
          refine r_lv (lv' := [(0, .ref hM), (1, vi x), (2, vi y), (3, vi s), (4, vi t), (5, vi q), (6, vi (d + 1))]) [4, 5, 6, 7, 8, 9, 0] rfl ?_
          exact ih_18 (d + 1, a + (Fa (11 * (y + LYM N s t q d) + (x + LXM N s t q d))), b, d, e + (N (11 * (y + LYM N s t q d) + (x + LXM N s t q d)))) (show (0 ≤ (d + 1) ∧ (d + 1) ≤ N 141) ∧ (-2147483648 ≤ b ∧ b ≤ 2147483647) ∧ (FT (LXM N s t q) (LYM N s t q) (d + 1) wi hi x y) ∧ ((a + (Fa (11 * (y + LYM N s t q d) + (x + LXM N s t q d)))) = sI (gFM Fa (LXM N s t q) (LYM N s t q) x y) (d + 1)) ∧ (b = mxM (gFM Fa (LXM N s t q) (LYM N s t q) x y) (Int.toNat (d + 1))) ∧ (d = wdM (gFM Fa (LXM N s t q) (LYM N s t q) x y) wd (Int.toNat (d + 1))) ∧ ((e + (N (11 * (y + LYM N s t q d) + (x + LXM N s t q d)))) = sI (gFM N (LXM N s t q) (LYM N s t q) x y) (d + 1)) from ⟨(by omega), (by omega), (fun d9 a9 b9 => by
      by_cases e9 : d9 = d
      · subst e9; omega
      · exact jF d9 a9 (by omega)), (by rw [sI_s _ jd.1, ← ja, hG]), (by rw [mxM_s _ jd.1, ← jb, hG]; first | (exfalso; omega) | rw [if_pos (by omega)] | rw [if_neg (by omega)]), (by rw [wdM_s _ _ jd.1, ← jb, ← jc, hG]; first | (exfalso; omega) | rw [if_pos (by omega)] | rw [if_neg (by omega)]), (by rw [sI_s _ jd.1, ← je, hH])⟩) (show N 141 - (d + 1) < N 141 - d from by omega)
        · skip
          refine r_iload C dX12_looks_131 0 rfl ?_
          refine r_goto C 140 dX12_looks_133 rfl ?_
          refine pf_X12_152 C (ws' := [(hM, oB 11 [vi wi, vi hi, .ref mN, .ref mC, vi cm, vi ca, .ref mL, vi sc, vi qu, vi fp, .ref mT, vi lm, vi nw, vi nh, vi nr, .ref mF, .ref mR, .ref mD, .ref mA, vi (a + (Fa (11 * (y + LYM N s t q d) + (x + LXM N s t q d)))), vi (Fa (11 * (y + LYM N s t q d) + (x + LXM N s t q d))), vi d, vi e, .ref mK, vi rm, .ref mH, vi cn]), (mN, aI g 145 N), (mA, aI g 121 Fa)]) dX12_looks_140 0 rfl (Nat.le_of_ble_eq_true rfl) rfl ?_
          refine r_aload_n C dX12_looks_143 3 rfl ?_
          refine r_dup C dX12_looks_144 rfl ?_
          refine gf_X12_155 C dX12_looks_145 0 rfl rfl ?_
          refine r_aload_n C dX12_looks_148 3 rfl ?_
          refine gf_X12_7 C dX12_looks_149 0 rfl rfl ?_
          refine r_iload C dX12_looks_152 2 rfl ?_
          refine r_iload C dX12_looks_154 1 rfl ?_
          refine k_Si C ks_X12_50 (fun sz => c_X12_at l g (x + (LXM N s t q d)) (y + (LYM N s t q d)) sz) dX12_looks_156 rfl rfl rfl ⟨rfl, rfl⟩ [] rfl rfl (fun _ => rfl) (ws' := fun u_ => [(hM, oB 11 [vi wi, vi hi, .ref mN, .ref mC, vi cm, vi ca, .ref mL, vi sc, vi qu, vi fp, .ref mT, vi lm, vi nw, vi nh, vi nr, .ref mF, .ref mR, .ref mD, .ref mA, vi (a + (Fa (11 * (y + LYM N s t q d) + (x + LXM N s t q d)))), vi (Fa (11 * (y + LYM N s t q d) + (x + LXM N s t q d))), vi d, vi e, .ref mK, vi rm, .ref mH, vi cn]), (mN, aI g 145 N), (mA, aI g 121 Fa)]) (fun _ => rfl) (fun r_156 u_ p_156 => ?_)
          have p_156 : r_156 = 11 * (y + (LYM N s t q d)) + (x + (LXM N s t q d)) := p_156
          refine r_eq (y := (11 * (y + LYM N s t q d) + (x + LXM N s t q d))) p_156 ?_
          refine r_iald C dX12_looks_159 1 rfl rfl (by omega) ?_
          refine r_iadd C dX12_looks_160 ?_
          refine pf_X12_155 C (ws' := [(hM, oB 11 [vi wi, vi hi, .ref mN, .ref mC, vi cm, vi ca, .ref mL, vi sc, vi qu, vi fp, .ref mT, vi lm, vi nw, vi nh, vi nr, .ref mF, .ref mR, .ref mD, .ref mA, vi (a + (Fa (11 * (y + LYM N s t q d) + (x + LXM N s t q d)))), vi (Fa (11 * (y + LYM N s t q d) + (x + LXM N s t q d))), vi d, vi (e + (N (11 * (y + LYM N s t q d) + (x + LXM N s t q d)))), .ref mK, vi rm, .ref mH, vi cn]), (mN, aI g 145 N), (mA, aI g 121 Fa)]) dX12_looks_161 0 rfl (Nat.le_of_ble_eq_true rfl) rfl ?_
          refine r_iinc C (lv' := [(6, vi (d + 1)), (9, vi (Fa (11 * (y + LYM N s t q d) + (x + LXM N s t q d)))), (8, vi (y + (LYM N s t q d))), (7, vi (x + (LXM N s t q d))), (0, .ref hM), (1, vi x), (2, vi y), (3, vi s), (4, vi t), (5, vi q)]) dX12_looks_164 9 rfl rfl rfl ?_
          refine r_goto C 18 dX12_looks_167 rfl ?_
          refine r_lv (lv' := [(0, .ref hM), (1, vi x), (2, vi y), (3, vi s), (4, vi t), (5, vi q), (6, vi (d + 1))]) [4, 5, 6, 7, 8, 9, 0] rfl ?_
          exact ih_18 (d + 1, a + (Fa (11 * (y + LYM N s t q d) + (x + LXM N s t q d))), Fa (11 * (y + LYM N s t q d) + (x + LXM N s t q d)), d, e + (N (11 * (y + LYM N s t q d) + (x + LXM N s t q d)))) (show (0 ≤ (d + 1) ∧ (d + 1) ≤ N 141) ∧ (-2147483648 ≤ (Fa (11 * (y + LYM N s t q d) + (x + LXM N s t q d))) ∧ (Fa (11 * (y + LYM N s t q d) + (x + LXM N s t q d))) ≤ 2147483647) ∧ (FT (LXM N s t q) (LYM N s t q) (d + 1) wi hi x y) ∧ ((a + (Fa (11 * (y + LYM N s t q d) + (x + LXM N s t q d)))) = sI (gFM Fa (LXM N s t q) (LYM N s t q) x y) (d + 1)) ∧ ((Fa (11 * (y + LYM N s t q d) + (x + LXM N s t q d))) = mxM (gFM Fa (LXM N s t q) (LYM N s t q) x y) (Int.toNat (d + 1))) ∧ (d = wdM (gFM Fa (LXM N s t q) (LYM N s t q) x y) wd (Int.toNat (d + 1))) ∧ ((e + (N (11 * (y + LYM N s t q d) + (x + LXM N s t q d)))) = sI (gFM N (LXM N s t q) (LYM N s t q) x y) (d + 1)) from ⟨(by omega), (by omega), (fun d9 a9 b9 => by
      by_cases e9 : d9 = d
      · subst e9; omega
      · exact jF d9 a9 (by omega)), (by rw [sI_s _ jd.1, ← ja, hG]), (by rw [mxM_s _ jd.1, ← jb, hG]; first | (exfalso; omega) | rw [if_pos (by omega)] | rw [if_neg (by omega)]), (by rw [wdM_s _ _ jd.1, ← jb, ← jc, hG]; first | (exfalso; omega) | rw [if_pos (by omega)] | rw [if_neg (by omega)]), (by rw [sI_s _ jd.1, ← je, hH])⟩) (show N 141 - (d + 1) < N 141 - d from by omega)
    · skip
      refine r_iconst C dX12_looks_72 ?_
      exact e_z C (a, b, c, e) dX12_looks_73 (by omega) (show (0 = 1 ∧ FT (LXM N s t q) (LYM N s t q) (N 141) wi hi x y ∧ a = sI (gFM Fa (LXM N s t q) (LYM N s t q) x y) (N 141) ∧ b = mxM (gFM Fa (LXM N s t q) (LYM N s t q) x y) (N 141).toNat ∧ c = wdM (gFM Fa (LXM N s t q) (LYM N s t q) x y) wd (N 141).toNat ∧ e = sI (gFM N (LXM N s t q) (LYM N s t q) x y) (N 141)) ∨ (0 = 0 ∧ ¬ FT (LXM N s t q) (LYM N s t q) (N 141) wi hi x y) from Or.inr ⟨rfl, fun z => by have := z d jd.1 (by omega); omega⟩) rfl
set_option maxHeartbeats 1000000 in
set_option maxRecDepth 100000 in
theorem c_X12_pose (l : Launch) (g : Gx) (hM : Nat) (wi : Int) (hi : Int) (mN : Nat) (mC : Nat) (cm : Int) (ca : Int) (mL : Nat) (sc : Int) (qu : Int) (fp : Int) (mT : Nat) (lm : Int) (nw : Int) (nh : Int) (nr : Int) (mF : Nat) (mR : Nat) (mD : Nat) (mA : Nat) (ii : Int) (wo : Int) (wd : Int) (oe : Int) (mK : Nat) (rm : Int) (mH : Nat) (cn : Int) (N : Int → Int) (Fa : Int → Int) (x : Int) (y : Int) (q : Int) (hN : MOK wi hi N) (kFa : ∀ k : Int, 0 ≤ k → k < 121 → -2147483648 ≤ Fa k ∧ Fa k ≤ 2147483647) (hlk : LKO sc qu fp) (bbx : -2147483648 ≤ x ∧ x ≤ 2147483647) (bby : -2147483648 ≤ y ∧ y ≤ 2147483647) (bbq : -2147483648 ≤ q ∧ q ≤ 2147483647) (sz : Nat) : Met l yX12_pose (.code yX12_pose cX12_pose 4 (some .int) :: wsL_law) { frames := 4, cells := 0, slots := 0, locals := 99 } (PR g [.ref hM, vi x, vi y, vi q] [(hM, oB 11 [vi wi, vi hi, .ref mN, .ref mC, vi cm, vi ca, .ref mL, vi sc, vi qu, vi fp, .ref mT, vi lm, vi nw, vi nh, vi nr, .ref mF, .ref mR, .ref mD, .ref mA, vi ii, vi wo, vi wd, vi oe, .ref mK, vi rm, .ref mH, vi cn]), (mN, aI g 145 N), (mA, aI g 121 Fa)] sz) (PI (S := Int × Int × Int × Int × (Int → Int)) g (fun r u_ => (∀ k : Int, 0 ≤ k → k < 121 → -2147483648 ≤ u_.2.2.2.2 k ∧ u_.2.2.2.2 k ≤ 2147483647) ∧ ((r = -1 ∧ ¬ ((0 ≤ x ∧ x < wi ∧ 0 ≤ y ∧ y < hi) ∧ 0 ≤ q ∧ q ≤ 3)) ∨ (r = -4 ∧ ((0 ≤ x ∧ x < wi ∧ 0 ≤ y ∧ y < hi) ∧ 0 ≤ q ∧ q ≤ 3) ∧ ¬ FT (LXM N sc qu fp) (LYM N sc qu fp) (N 141) wi hi x y) ∨ (((0 ≤ x ∧ x < wi ∧ 0 ≤ y ∧ y < hi) ∧ 0 ≤ q ∧ q ≤ 3) ∧ FT (LXM N sc qu fp) (LYM N sc qu fp) (N 141) wi hi x y ∧ r = pAn (FRM N (LXM N sc qu fp) (LYM N sc qu fp) x y) (N 141) q))) (fun u_ => [(hM, oB 11 [vi wi, vi hi, .ref mN, .ref mC, vi cm, vi ca, .ref mL, vi sc, vi qu, vi fp, .ref mT, vi lm, vi nw, vi nh, vi nr, .ref mF, .ref mR, .ref mD, .ref mA, vi u_.1, vi u_.2.1, vi u_.2.2.1, vi u_.2.2.2.1, .ref mK, vi rm, .ref mH, vi cn]), (mN, aI g 145 N), (mA, aI g 121 u_.2.2.2.2)]) [(hM, oB 11 [vi wi, vi hi, .ref mN, .ref mC, vi cm, vi ca, .ref mL, vi sc, vi qu, vi fp, .ref mT, vi lm, vi nw, vi nh, vi nr, .ref mF, .ref mR, .ref mD, .ref mA, vi ii, vi wo, vi wd, vi oe, .ref mK, vi rm, .ref mH, vi cn]), (mN, aI g 145 N), (mA, aI g 121 Fa)] sz) 0 0 (va_A [(hM, oB 11 [vi wi, vi hi, .ref mN, .ref mC, vi cm, vi ca, .ref mL, vi sc, vi qu, vi fp, .ref mT, vi lm, vi nw, vi nh, vi nr, .ref mF, .ref mR, .ref mD, .ref mA, vi ii, vi wo, vi wd, vi oe, .ref mK, vi rm, .ref mH, vi cn]), (mN, aI g 145 N), (mA, aI g 121 Fa)] sz) := by
  refine meet (own := RX12) rfl (plainFor_of_name (by decide +kernel)) rfl (fun p_ e_ s_ m_ args_ below_ meth_ c_ C hnm => ?_)
  refine r_at (ws' := [(hM, oB 11 [vi wi, vi hi, .ref mN, .ref mC, vi cm, vi ca, .ref mL, vi sc, vi qu, vi fp, .ref mT, vi lm, vi nw, vi nh, vi nr, .ref mF, .ref mR, .ref mD, .ref mA, vi ii, vi wo, vi wd, vi oe, .ref mK, vi rm, .ref mH, vi cn]), (mN, aI g 145 N), (mA, aI g 121 Fa)]) (lv' := [(0, .ref hM), (1, vi x), (2, vi y), (3, vi q)]) rfl rfl ?_
  obtain ⟨nW, nH, n1, nO, nn, nX, nY, nM, nC, nT⟩ := id hN
  obtain ⟨k3, kt, kf⟩ := id hlk
  refine r_aload_n C dX12_pose_0 0 rfl ?_
  refine r_iload_n C dX12_pose_1 1 rfl ?_
  refine r_iload_n C dX12_pose_2 2 rfl ?_
  refine k_Vi C kv_X12_120 (fun sz => c_X12_isCell l g hM wi hi mN mC cm ca mL sc qu fp mT lm nw nh nr mF mR mD mA ii wo wd oe mK rm mH cn x y nW nH (by omega) (by omega) sz) dX12_pose_3 rfl rfl rfl ⟨rfl, rfl⟩ 0 11 rfl rfl rfl [0] rfl rfl (fun _ => rfl) (ws' := fun u_ => [(hM, oB 11 [vi wi, vi hi, .ref mN, .ref mC, vi cm, vi ca, .ref mL, vi sc, vi qu, vi fp, .ref mT, vi lm, vi nw, vi nh, vi nr, .ref mF, .ref mR, .ref mD, .ref mA, vi ii, vi wo, vi wd, vi oe, .ref mK, vi rm, .ref mH, vi cn]), (mN, aI g 145 N), (mA, aI g 121 Fa)]) (fun _ => rfl) (fun r_3 u_ p_3 => ?_)
  have p_3 : (r_3 = 1 ∧ 0 ≤ x ∧ x < wi ∧ 0 ≤ y ∧ y < hi) ∨ (r_3 = 0 ∧ ¬ (0 ≤ x ∧ x < wi ∧ 0 ≤ y ∧ y < hi)) := p_3
  refine r_if_eq C 18 dX12_pose_6 rfl (by omega) (fun c_1 => ?_) (fun c_1 => ?_)
  · skip
    refine r_iconst C dX12_pose_18 ?_
    exact e_i C (ii, wo, wd, oe, Fa) dX12_pose_19 (show (∀ k : Int, 0 ≤ k → k < 121 → -2147483648 ≤ Fa k ∧ Fa k ≤ 2147483647) ∧ (((-1) = -1 ∧ ¬ ((0 ≤ x ∧ x < wi ∧ 0 ≤ y ∧ y < hi) ∧ 0 ≤ q ∧ q ≤ 3)) ∨ ((-1) = -4 ∧ ((0 ≤ x ∧ x < wi ∧ 0 ≤ y ∧ y < hi) ∧ 0 ≤ q ∧ q ≤ 3) ∧ ¬ FT (LXM N sc qu fp) (LYM N sc qu fp) (N 141) wi hi x y) ∨ (((0 ≤ x ∧ x < wi ∧ 0 ≤ y ∧ y < hi) ∧ 0 ≤ q ∧ q ≤ 3) ∧ FT (LXM N sc qu fp) (LYM N sc qu fp) (N 141) wi hi x y ∧ (-1) = pAn (FRM N (LXM N sc qu fp) (LYM N sc qu fp) x y) (N 141) q)) from ⟨kFa, Or.inl ⟨rfl, by omega⟩⟩) rfl
  · skip
    refine r_iload_n C dX12_pose_9 3 rfl ?_
    refine r_iconst C dX12_pose_10 ?_
    refine r_iconst C dX12_pose_11 ?_
    refine k_Si C ks_X12_58 (fun sz => c_X12_in l g q 0 3 (by omega) (by omega) (by omega) sz) dX12_pose_12 rfl rfl rfl ⟨rfl, rfl⟩ [] rfl rfl (fun _ => rfl) (ws' := fun u_ => [(hM, oB 11 [vi wi, vi hi, .ref mN, .ref mC, vi cm, vi ca, .ref mL, vi sc, vi qu, vi fp, .ref mT, vi lm, vi nw, vi nh, vi nr, .ref mF, .ref mR, .ref mD, .ref mA, vi ii, vi wo, vi wd, vi oe, .ref mK, vi rm, .ref mH, vi cn]), (mN, aI g 145 N), (mA, aI g 121 Fa)]) (fun _ => rfl) (fun r_12 u_ p_12 => ?_)
    have p_12 : (r_12 = 1 ∧ 0 ≤ q ∧ q ≤ 3) ∨ (r_12 = 0 ∧ ¬ (0 ≤ q ∧ q ≤ 3)) := p_12
    refine r_if_ne C 20 dX12_pose_15 rfl (by omega) (fun c_2 => ?_) (fun c_2 => ?_)
    · skip
      refine r_aload_n C dX12_pose_20 0 rfl ?_
      refine k_Vv C kv_X12_161 (fun sz => c_X12_laysFars l g hM wi hi mN mC cm ca mL sc qu fp mT lm nw nh nr mF mR mD mA ii wo wd oe mK rm mH cn N Fa hN kFa sz) dX12_pose_21 rfl rfl rfl ⟨rfl, rfl⟩ 0 11 rfl rfl rfl [0, 1, 2] rfl rfl (fun _ => rfl) (ws' := fun u_ => [(hM, oB 11 [vi wi, vi hi, .ref mN, .ref mC, vi cm, vi ca, .ref mL, vi sc, vi qu, vi fp, .ref mT, vi lm, vi nw, vi nh, vi nr, .ref mF, .ref mR, .ref mD, .ref mA, vi ii, vi wo, vi wd, vi oe, .ref mK, vi rm, .ref mH, vi cn]), (mN, aI g 145 N), (mA, aI g 121 u_)]) (fun _ => rfl) (fun u_ p_21 => ?_)
      obtain ⟨A2_21, rfl⟩ : ∃ w_, w_ = u_ := ⟨_, rfl⟩
      refine r_at (ws' := [(hM, oB 11 [vi wi, vi hi, .ref mN, .ref mC, vi cm, vi ca, .ref mL, vi sc, vi qu, vi fp, .ref mT, vi lm, vi nw, vi nh, vi nr, .ref mF, .ref mR, .ref mD, .ref mA, vi ii, vi wo, vi wd, vi oe, .ref mK, vi rm, .ref mH, vi cn]), (mN, aI g 145 N), (mA, aI g 121 A2_21)]) (lv' := [(0, .ref hM), (1, vi x), (2, vi y), (3, vi q)]) rfl rfl ?_
      have p_21 : FAM wi hi N A2_21 ∧ ∀ k : Int, 0 ≤ k → k < 121 → -2147483648 ≤ A2_21 k ∧ A2_21 k ≤ 2147483647 := p_21
      refine r_aload_n C dX12_pose_24 0 rfl ?_
      refine r_iload_n C dX12_pose_25 1 rfl ?_
      refine r_iload_n C dX12_pose_26 2 rfl ?_
      refine r_aload_n C dX12_pose_27 0 rfl ?_
      refine gf_X12_19 C dX12_pose_28 0 rfl rfl ?_
      refine r_aload_n C dX12_pose_31 0 rfl ?_
      refine gf_X12_108 C dX12_pose_32 0 rfl rfl ?_
      refine r_aload_n C dX12_pose_35 0 rfl ?_
      refine gf_X12_111 C dX12_pose_36 0 rfl rfl ?_
      refine k_Vi C kv_X12_164 (fun sz => c_X12_looks l g hM wi hi mN mC cm ca mL sc qu fp mT lm nw nh nr mF mR mD mA ii wo wd oe mK rm mH cn N A2_21 x y sc qu fp hN p_21.2 (by omega) k3 kt kf sz) dX12_pose_39 rfl rfl rfl ⟨rfl, rfl⟩ 0 11 rfl rfl rfl [0, 1, 2] rfl rfl (fun _ => rfl) (ws' := fun u_ => [(hM, oB 11 [vi wi, vi hi, .ref mN, .ref mC, vi cm, vi ca, .ref mL, vi sc, vi qu, vi fp, .ref mT, vi lm, vi nw, vi nh, vi nr, .ref mF, .ref mR, .ref mD, .ref mA, vi u_.1, vi u_.2.1, vi u_.2.2.1, vi u_.2.2.2, .ref mK, vi rm, .ref mH, vi cn]), (mN, aI g 145 N), (mA, aI g 121 A2_21)]) (fun _ => rfl) (fun r_39 u_ p_39 => ?_)
      obtain ⟨ii2_39, wo2_39, wd2_39, oe2_39⟩ := u_
      refine r_at (ws' := [(hM, oB 11 [vi wi, vi hi, .ref mN, .ref mC, vi cm, vi ca, .ref mL, vi sc, vi qu, vi fp, .ref mT, vi lm, vi nw, vi nh, vi nr, .ref mF, .ref mR, .ref mD, .ref mA, vi ii2_39, vi wo2_39, vi wd2_39, vi oe2_39, .ref mK, vi rm, .ref mH, vi cn]), (mN, aI g 145 N), (mA, aI g 121 A2_21)]) (lv' := [(0, .ref hM), (1, vi x), (2, vi y), (3, vi q)]) rfl rfl ?_
      have p_39 : (r_39 = 1 ∧ FT (LXM N sc qu fp) (LYM N sc qu fp) (N 141) wi hi x y ∧ ii2_39 = sI (gFM A2_21 (LXM N sc qu fp) (LYM N sc qu fp) x y) (N 141) ∧ wo2_39 = mxM (gFM A2_21 (LXM N sc qu fp) (LYM N sc qu fp) x y) (N 141).toNat ∧ wd2_39 = wdM (gFM A2_21 (LXM N sc qu fp) (LYM N sc qu fp) x y) wd (N 141).toNat ∧ oe2_39 = sI (gFM N (LXM N sc qu fp) (LYM N sc qu fp) x y) (N 141)) ∨ (r_39 = 0 ∧ ¬ FT (LXM N sc qu fp) (LYM N sc qu fp) (N 141) wi hi x y) := p_39
      refine r_if_ne C 48 dX12_pose_42 rfl (by omega) (fun c_3 => ?_) (fun c_3 => ?_)
      · skip
        obtain ⟨-, hft, e1, e2, e3, e4⟩ := Or.resolve_right p_39 (fun z => by omega)
        obtain ⟨k1, k2, k4, k5⟩ := look_an (w0 := wd) hN p_21.1 hft
        refine r_iload_n C dX12_pose_48 3 rfl ?_
        refine r_if_ne C 59 dX12_pose_49 rfl (by omega) (fun c_4 => ?_) (fun c_4 => ?_)
        · skip
          refine r_iload_n C dX12_pose_59 3 rfl ?_
          refine r_iconst C dX12_pose_60 ?_
          refine r_icmp_ne C 71 dX12_pose_61 rfl (by omega) (fun c_5 => ?_) (fun c_5 => ?_)
          · skip
            refine r_iload_n C dX12_pose_71 3 rfl ?_
            refine r_iconst C dX12_pose_72 ?_
            refine r_icmp_ne C 83 dX12_pose_73 rfl (by omega) (fun c_6 => ?_) (fun c_6 => ?_)
            · skip
              refine r_aload_n C dX12_pose_83 0 rfl ?_
              refine gf_X12_155 C dX12_pose_84 0 rfl rfl ?_
              exact e_i C (ii2_39, wo2_39, wd2_39, oe2_39, A2_21) dX12_pose_87 (show (∀ k : Int, 0 ≤ k → k < 121 → -2147483648 ≤ A2_21 k ∧ A2_21 k ≤ 2147483647) ∧ ((oe2_39 = -1 ∧ ¬ ((0 ≤ x ∧ x < wi ∧ 0 ≤ y ∧ y < hi) ∧ 0 ≤ q ∧ q ≤ 3)) ∨ (oe2_39 = -4 ∧ ((0 ≤ x ∧ x < wi ∧ 0 ≤ y ∧ y < hi) ∧ 0 ≤ q ∧ q ≤ 3) ∧ ¬ FT (LXM N sc qu fp) (LYM N sc qu fp) (N 141) wi hi x y) ∨ (((0 ≤ x ∧ x < wi ∧ 0 ≤ y ∧ y < hi) ∧ 0 ≤ q ∧ q ≤ 3) ∧ FT (LXM N sc qu fp) (LYM N sc qu fp) (N 141) wi hi x y ∧ oe2_39 = pAn (FRM N (LXM N sc qu fp) (LYM N sc qu fp) x y) (N 141) q)) from ⟨p_21.2, Or.inr (Or.inr ⟨by omega, hft, by unfold pAn; rw [if_neg (by omega), if_neg (by omega), if_neg (by omega), e4, k5]⟩)⟩) rfl
            · skip
              refine r_aload_n C dX12_pose_76 0 rfl ?_
              refine gf_X12_158 C dX12_pose_77 0 rfl rfl ?_
              refine r_goto C 87 dX12_pose_80 rfl ?_
              exact e_i C (ii2_39, wo2_39, wd2_39, oe2_39, A2_21) dX12_pose_87 (show (∀ k : Int, 0 ≤ k → k < 121 → -2147483648 ≤ A2_21 k ∧ A2_21 k ≤ 2147483647) ∧ ((wd2_39 = -1 ∧ ¬ ((0 ≤ x ∧ x < wi ∧ 0 ≤ y ∧ y < hi) ∧ 0 ≤ q ∧ q ≤ 3)) ∨ (wd2_39 = -4 ∧ ((0 ≤ x ∧ x < wi ∧ 0 ≤ y ∧ y < hi) ∧ 0 ≤ q ∧ q ≤ 3) ∧ ¬ FT (LXM N sc qu fp) (LYM N sc qu fp) (N 141) wi hi x y) ∨ (((0 ≤ x ∧ x < wi ∧ 0 ≤ y ∧ y < hi) ∧ 0 ≤ q ∧ q ≤ 3) ∧ FT (LXM N sc qu fp) (LYM N sc qu fp) (N 141) wi hi x y ∧ wd2_39 = pAn (FRM N (LXM N sc qu fp) (LYM N sc qu fp) x y) (N 141) q)) from ⟨p_21.2, Or.inr (Or.inr ⟨by omega, hft, by unfold pAn; rw [if_neg (by omega), if_neg (by omega), if_pos (by omega), e3, k4]⟩)⟩) rfl
          · skip
            refine r_aload_n C dX12_pose_64 0 rfl ?_
            refine gf_X12_152 C dX12_pose_65 0 rfl rfl ?_
            refine r_goto C 87 dX12_pose_68 rfl ?_
            exact e_i C (ii2_39, wo2_39, wd2_39, oe2_39, A2_21) dX12_pose_87 (show (∀ k : Int, 0 ≤ k → k < 121 → -2147483648 ≤ A2_21 k ∧ A2_21 k ≤ 2147483647) ∧ ((wo2_39 = -1 ∧ ¬ ((0 ≤ x ∧ x < wi ∧ 0 ≤ y ∧ y < hi) ∧ 0 ≤ q ∧ q ≤ 3)) ∨ (wo2_39 = -4 ∧ ((0 ≤ x ∧ x < wi ∧ 0 ≤ y ∧ y < hi) ∧ 0 ≤ q ∧ q ≤ 3) ∧ ¬ FT (LXM N sc qu fp) (LYM N sc qu fp) (N 141) wi hi x y) ∨ (((0 ≤ x ∧ x < wi ∧ 0 ≤ y ∧ y < hi) ∧ 0 ≤ q ∧ q ≤ 3) ∧ FT (LXM N sc qu fp) (LYM N sc qu fp) (N 141) wi hi x y ∧ wo2_39 = pAn (FRM N (LXM N sc qu fp) (LYM N sc qu fp) x y) (N 141) q)) from ⟨p_21.2, Or.inr (Or.inr ⟨by omega, hft, by unfold pAn; rw [if_neg (by omega), if_pos (by omega), e2, k2]⟩)⟩) rfl
        · skip
          refine r_aload_n C dX12_pose_52 0 rfl ?_
          refine gf_X12_149 C dX12_pose_53 0 rfl rfl ?_
          refine r_goto C 87 dX12_pose_56 rfl ?_
          exact e_i C (ii2_39, wo2_39, wd2_39, oe2_39, A2_21) dX12_pose_87 (show (∀ k : Int, 0 ≤ k → k < 121 → -2147483648 ≤ A2_21 k ∧ A2_21 k ≤ 2147483647) ∧ ((ii2_39 = -1 ∧ ¬ ((0 ≤ x ∧ x < wi ∧ 0 ≤ y ∧ y < hi) ∧ 0 ≤ q ∧ q ≤ 3)) ∨ (ii2_39 = -4 ∧ ((0 ≤ x ∧ x < wi ∧ 0 ≤ y ∧ y < hi) ∧ 0 ≤ q ∧ q ≤ 3) ∧ ¬ FT (LXM N sc qu fp) (LYM N sc qu fp) (N 141) wi hi x y) ∨ (((0 ≤ x ∧ x < wi ∧ 0 ≤ y ∧ y < hi) ∧ 0 ≤ q ∧ q ≤ 3) ∧ FT (LXM N sc qu fp) (LYM N sc qu fp) (N 141) wi hi x y ∧ ii2_39 = pAn (FRM N (LXM N sc qu fp) (LYM N sc qu fp) x y) (N 141) q)) from ⟨p_21.2, Or.inr (Or.inr ⟨by omega, hft, by unfold pAn; rw [if_pos (by omega), e1, k1]⟩)⟩) rfl
      · skip
        refine r_bipush C dX12_pose_45 rfl ?_
        exact e_i C (ii2_39, wo2_39, wd2_39, oe2_39, A2_21) dX12_pose_47 (show (∀ k : Int, 0 ≤ k → k < 121 → -2147483648 ≤ A2_21 k ∧ A2_21 k ≤ 2147483647) ∧ (((-4) = -1 ∧ ¬ ((0 ≤ x ∧ x < wi ∧ 0 ≤ y ∧ y < hi) ∧ 0 ≤ q ∧ q ≤ 3)) ∨ ((-4) = -4 ∧ ((0 ≤ x ∧ x < wi ∧ 0 ≤ y ∧ y < hi) ∧ 0 ≤ q ∧ q ≤ 3) ∧ ¬ FT (LXM N sc qu fp) (LYM N sc qu fp) (N 141) wi hi x y) ∨ (((0 ≤ x ∧ x < wi ∧ 0 ≤ y ∧ y < hi) ∧ 0 ≤ q ∧ q ≤ 3) ∧ FT (LXM N sc qu fp) (LYM N sc qu fp) (N 141) wi hi x y ∧ (-4) = pAn (FRM N (LXM N sc qu fp) (LYM N sc qu fp) x y) (N 141) q)) from ⟨p_21.2, Or.inr (Or.inl ⟨rfl, by omega, fun z => by rcases p_39 with e | e; omega; exact e.2 z⟩)⟩) rfl
    · skip
      refine r_iconst C dX12_pose_18 ?_
      exact e_i C (ii, wo, wd, oe, Fa) dX12_pose_19 (show (∀ k : Int, 0 ≤ k → k < 121 → -2147483648 ≤ Fa k ∧ Fa k ≤ 2147483647) ∧ (((-1) = -1 ∧ ¬ ((0 ≤ x ∧ x < wi ∧ 0 ≤ y ∧ y < hi) ∧ 0 ≤ q ∧ q ≤ 3)) ∨ ((-1) = -4 ∧ ((0 ≤ x ∧ x < wi ∧ 0 ≤ y ∧ y < hi) ∧ 0 ≤ q ∧ q ≤ 3) ∧ ¬ FT (LXM N sc qu fp) (LYM N sc qu fp) (N 141) wi hi x y) ∨ (((0 ≤ x ∧ x < wi ∧ 0 ≤ y ∧ y < hi) ∧ 0 ≤ q ∧ q ≤ 3) ∧ FT (LXM N sc qu fp) (LYM N sc qu fp) (N 141) wi hi x y ∧ (-1) = pAn (FRM N (LXM N sc qu fp) (LYM N sc qu fp) x y) (N 141) q)) from ⟨kFa, Or.inl ⟨rfl, by omega⟩⟩) rfl
set_option maxHeartbeats 1000000 in
set_option maxRecDepth 100000 in
theorem c_X12_fits (l : Launch) (g : Gx) (hM : Nat) (wi : Int) (hi : Int) (mN : Nat) (mC : Nat) (cm : Int) (ca : Int) (mL : Nat) (sc : Int) (qu : Int) (fp : Int) (mT : Nat) (lm : Int) (nw : Int) (nh : Int) (nr : Int) (mF : Nat) (mR : Nat) (mD : Nat) (mA : Nat) (ii : Int) (wo : Int) (wd : Int) (oe : Int) (mK : Nat) (rm : Int) (mH : Nat) (cn : Int) (N : Int → Int) (Fa : Int → Int) (hN : MOK wi hi N) (kFa : ∀ k : Int, 0 ≤ k → k < 121 → -2147483648 ≤ Fa k ∧ Fa k ≤ 2147483647) (hlk : LKO sc qu fp) (sz : Nat) : Met l yX12_fits (.code yX12_fits cX12_fits 3 (some .int) :: wsL_law) { frames := 3, cells := 0, slots := 0, locals := 76 } (PR g [.ref hM] [(hM, oB 11 [vi wi, vi hi, .ref mN, .ref mC, vi cm, vi ca, .ref mL, vi sc, vi qu, vi fp, .ref mT, vi lm, vi nw, vi nh, vi nr, .ref mF, .ref mR, .ref mD, .ref mA, vi ii, vi wo, vi wd, vi oe, .ref mK, vi rm, .ref mH, vi cn]), (mN, aI g 145 N), (mA, aI g 121 Fa)] sz) (PI (S := Int × Int × Int × Int) g (fun r u_ => r = sum2 wi hi (fun a b => ftI (LXM N sc qu fp) (LYM N sc qu fp) (N 141) wi hi a b)) (fun u_ => [(hM, oB 11 [vi wi, vi hi, .ref mN, .ref mC, vi cm, vi ca, .ref mL, vi sc, vi qu, vi fp, .ref mT, vi lm, vi nw, vi nh, vi nr, .ref mF, .ref mR, .ref mD, .ref mA, vi u_.1, vi u_.2.1, vi u_.2.2.1, vi u_.2.2.2, .ref mK, vi rm, .ref mH, vi cn]), (mN, aI g 145 N), (mA, aI g 121 Fa)]) [(hM, oB 11 [vi wi, vi hi, .ref mN, .ref mC, vi cm, vi ca, .ref mL, vi sc, vi qu, vi fp, .ref mT, vi lm, vi nw, vi nh, vi nr, .ref mF, .ref mR, .ref mD, .ref mA, vi ii, vi wo, vi wd, vi oe, .ref mK, vi rm, .ref mH, vi cn]), (mN, aI g 145 N), (mA, aI g 121 Fa)] sz) 0 0 (va_A [(hM, oB 11 [vi wi, vi hi, .ref mN, .ref mC, vi cm, vi ca, .ref mL, vi sc, vi qu, vi fp, .ref mT, vi lm, vi nw, vi nh, vi nr, .ref mF, .ref mR, .ref mD, .ref mA, vi ii, vi wo, vi wd, vi oe, .ref mK, vi rm, .ref mH, vi cn]), (mN, aI g 145 N), (mA, aI g 121 Fa)] sz) := by
  refine meet (own := RX12) rfl (plainFor_of_name (by decide +kernel)) rfl (fun p_ e_ s_ m_ args_ below_ meth_ c_ C hnm => ?_)
  refine r_at (ws' := [(hM, oB 11 [vi wi, vi hi, .ref mN, .ref mC, vi cm, vi ca, .ref mL, vi sc, vi qu, vi fp, .ref mT, vi lm, vi nw, vi nh, vi nr, .ref mF, .ref mR, .ref mD, .ref mA, vi ii, vi wo, vi wd, vi oe, .ref mK, vi rm, .ref mH, vi cn]), (mN, aI g 145 N), (mA, aI g 121 Fa)]) (lv' := [(0, .ref hM)]) rfl rfl ?_
  obtain ⟨nW, nH, n1, nO, nn, nX, nY, nM, nC, nT⟩ := id hN
  obtain ⟨k3, kt, kf⟩ := id hlk
  refine r_iconst C dX12_fits_0 ?_
  refine r_istore_n C (lv' := [(1, vi 0), (0, .ref hM)]) dX12_fits_1 rfl rfl ?_
  refine r_iconst C dX12_fits_2 ?_
  refine r_istore_n C (lv' := [(2, vi 0), (1, vi 0), (0, .ref hM)]) dX12_fits_3 rfl rfl ?_
  refine r_lv (lv' := [(0, .ref hM), (1, vi 0), (2, vi 0)]) [2, 1, 0] rfl ?_
  refine r_loop (σ := Int × Int × Int × Int × Int × Int) (fun z_ => (0 ≤ z_.1 ∧ z_.1 ≤ 121) ∧ (z_.2.1 = sI (fun k9 => if k9 % 11 < wi ∧ k9 / 11 < hi then ftI (LXM N sc qu fp) (LYM N sc qu fp) (N 141) wi hi (k9 % 11) (k9 / 11) else 0) z_.1)) (fun z_ => 121 - z_.1) (fun z_ => [(hM, oB 11 [vi wi, vi hi, .ref mN, .ref mC, vi cm, vi ca, .ref mL, vi sc, vi qu, vi fp, .ref mT, vi lm, vi nw, vi nh, vi nr, .ref mF, .ref mR, .ref mD, .ref mA, vi z_.2.2.1, vi z_.2.2.2.1, vi z_.2.2.2.2.1, vi z_.2.2.2.2.2, .ref mK, vi rm, .ref mH, vi cn]), (mN, aI g 145 N), (mA, aI g 121 Fa)]) (fun z_ => [(0, .ref hM), (1, vi z_.2.1), (2, vi z_.1)]) (fun z_ hz => ?_) (fun z_ hz ih_4 => ?_) (((0, 0, ii, wo, wd, oe) : Int × Int × Int × Int × Int × Int)) ?_
  · obtain ⟨k, a, i1, i2, i3, i4⟩ := z_
    obtain ⟨jk, ja⟩ := hz
    have jk : 0 ≤ k ∧ k ≤ 121 := jk
    have ja : a = sI (fun k9 => if k9 % 11 < wi ∧ k9 / 11 < hi then ftI (LXM N sc qu fp) (LYM N sc qu fp) (N 141) wi hi (k9 % 11) (k9 / 11) else 0) k := ja
    show (0 : Int) ≤ 121 - k
    omega
  rotate_left
  · show (0 ≤ 0 ∧ 0 ≤ 121) ∧ (0 = sI (fun k9 => if k9 % 11 < wi ∧ k9 / 11 < hi then ftI (LXM N sc qu fp) (LYM N sc qu fp) (N 141) wi hi (k9 % 11) (k9 / 11) else 0) 0)
    exact ⟨(by decide), (rfl)⟩
  obtain ⟨k, a, i1, i2, i3, i4⟩ := z_
  obtain ⟨jk, ja⟩ := hz
  have jk : 0 ≤ k ∧ k ≤ 121 := jk
  have ja : a = sI (fun k9 => if k9 % 11 < wi ∧ k9 / 11 < hi then ftI (LXM N sc qu fp) (LYM N sc qu fp) (N 141) wi hi (k9 % 11) (k9 / 11) else 0) k := ja
  refine r_at (ws' := [(hM, oB 11 [vi wi, vi hi, .ref mN, .ref mC, vi cm, vi ca, .ref mL, vi sc, vi qu, vi fp, .ref mT, vi lm, vi nw, vi nh, vi nr, .ref mF, .ref mR, .ref mD, .ref mA, vi i1, vi i2, vi i3, vi i4, .ref mK, vi rm, .ref mH, vi cn]), (mN, aI g 145 N), (mA, aI g 121 Fa)]) (lv' := [(0, .ref hM), (1, vi a), (2, vi k)]) rfl rfl ?_
  refine r_iload_n C dX12_fits_4 2 rfl ?_
  refine r_bipush C dX12_fits_5 rfl ?_
  refine r_icmp_ge C 66 dX12_fits_7 rfl (by omega) (fun c_1 => ?_) (fun c_1 => ?_)
  · skip
    refine r_iload_n C dX12_fits_66 1 rfl ?_
    exact e_i C (i1, i2, i3, i4) dX12_fits_67 (show a = sum2 wi hi (fun a b => ftI (LXM N sc qu fp) (LYM N sc qu fp) (N 141) wi hi a b) from by
      rw [ja, show k = 121 by omega]
      refine sum_121 (by omega) (by omega) (fun u v a b c d => ?_) (fun k9 a b c => if_neg (by omega))
      show (if (11 * v + u) % 11 < wi ∧ (11 * v + u) / 11 < hi then ftI (LXM N sc qu fp) (LYM N sc qu fp) (N 141) wi hi ((11 * v + u) % 11) ((11 * v + u) / 11) else 0) = _
      rw [if_pos (by omega), show (11 * v + u) % 11 = u by omega, show (11 * v + u) / 11 = v by omega]) rfl
  · skip
    refine r_iload_n C dX12_fits_10 1 rfl ?_
    refine r_aload_n C dX12_fits_11 0 rfl ?_
    refine r_iload_n C dX12_fits_12 2 rfl ?_
    refine r_bipush C dX12_fits_13 rfl ?_
    refine r_irem C dX12_fits_15 (by omega) ?_
    refine r_iload_n C dX12_fits_16 2 rfl ?_
    refine r_bipush C dX12_fits_17 rfl ?_
    refine r_idiv C dX12_fits_19 (by omega) ?_
    refine k_Vi C kv_X12_120 (fun sz => c_X12_isCell l g hM wi hi mN mC cm ca mL sc qu fp mT lm nw nh nr mF mR mD mA i1 i2 i3 i4 mK rm mH cn (k % 11) (k / 11) nW nH (by omega) (by omega) sz) dX12_fits_20 rfl rfl rfl ⟨rfl, rfl⟩ 0 11 rfl rfl rfl [0] rfl rfl (fun _ => rfl) (ws' := fun u_ => [(hM, oB 11 [vi wi, vi hi, .ref mN, .ref mC, vi cm, vi ca, .ref mL, vi sc, vi qu, vi fp, .ref mT, vi lm, vi nw, vi nh, vi nr, .ref mF, .ref mR, .ref mD, .ref mA, vi i1, vi i2, vi i3, vi i4, .ref mK, vi rm, .ref mH, vi cn]), (mN, aI g 145 N), (mA, aI g 121 Fa)]) (fun _ => rfl) (fun r_20 u_ p_20 => ?_)
    have p_20 : (r_20 = 1 ∧ 0 ≤ (k % 11) ∧ (k % 11) < wi ∧ 0 ≤ (k / 11) ∧ (k / 11) < hi) ∨ (r_20 = 0 ∧ ¬ (0 ≤ (k % 11) ∧ (k % 11) < wi ∧ 0 ≤ (k / 11) ∧ (k / 11) < hi)) := p_20
    refine r_if_eq C 57 dX12_fits_23 rfl (by omega) (fun c_2 => ?_) (fun c_2 => ?_)
    · skip
      refine r_iconst C dX12_fits_57 ?_
      refine r_iadd C dX12_fits_58 ?_
      refine r_istore_n C (lv' := [(1, vi (a + 0)), (0, .ref hM), (2, vi k)]) dX12_fits_59 rfl rfl ?_
      refine r_iinc C (lv' := [(2, vi (k + 1)), (1, vi (a + 0)), (0, .ref hM)]) dX12_fits_60 2 rfl rfl rfl ?_
      refine r_goto C 4 dX12_fits_63 rfl ?_
      refine r_lv (lv' := [(0, .ref hM), (1, vi (a + 0)), (2, vi (k + 1))]) [2, 1, 0] rfl ?_
      exact ih_4 (k + 1, a + 0, i1, i2, i3, i4) (show (0 ≤ (k + 1) ∧ (k + 1) ≤ 121) ∧ ((a + 0) = sI (fun k9 => if k9 % 11 < wi ∧ k9 / 11 < hi then ftI (LXM N sc qu fp) (LYM N sc qu fp) (N 141) wi hi (k9 % 11) (k9 / 11) else 0) (k + 1)) from ⟨(by omega), (by
      rw [sI_s _ jk.1, ← ja]
      show _ = a + (if k % 11 < wi ∧ k / 11 < hi then ftI (LXM N sc qu fp) (LYM N sc qu fp) (N 141) wi hi (k % 11) (k / 11) else 0)
      first | (rw [if_neg (by omega)]; done) | (rw [if_pos (by omega)]; congr 1; symm; exact pif_f (by rcases p_47 with z | z; omega; exact z.2)))⟩) (show 121 - (k + 1) < 121 - k from by omega)
    · skip
      refine r_aload_n C dX12_fits_26 0 rfl ?_
      refine r_iload_n C dX12_fits_27 2 rfl ?_
      refine r_bipush C dX12_fits_28 rfl ?_
      refine r_irem C dX12_fits_30 (by omega) ?_
      refine r_iload_n C dX12_fits_31 2 rfl ?_
      refine r_bipush C dX12_fits_32 rfl ?_
      refine r_idiv C dX12_fits_34 (by omega) ?_
      refine r_aload_n C dX12_fits_35 0 rfl ?_
      refine gf_X12_19 C dX12_fits_36 0 rfl rfl ?_
      refine r_aload_n C dX12_fits_39 0 rfl ?_
      refine gf_X12_108 C dX12_fits_40 0 rfl rfl ?_
      refine r_aload_n C dX12_fits_43 0 rfl ?_
      refine gf_X12_111 C dX12_fits_44 0 rfl rfl ?_
      refine k_Vi C kv_X12_164 (fun sz => c_X12_looks l g hM wi hi mN mC cm ca mL sc qu fp mT lm nw nh nr mF mR mD mA i1 i2 i3 i4 mK rm mH cn N Fa (k % 11) (k / 11) sc qu fp hN kFa (by omega) k3 kt kf sz) dX12_fits_47 rfl rfl rfl ⟨rfl, rfl⟩ 0 11 rfl rfl rfl [0, 1, 2] rfl rfl (fun _ => rfl) (ws' := fun u_ => [(hM, oB 11 [vi wi, vi hi, .ref mN, .ref mC, vi cm, vi ca, .ref mL, vi sc, vi qu, vi fp, .ref mT, vi lm, vi nw, vi nh, vi nr, .ref mF, .ref mR, .ref mD, .ref mA, vi u_.1, vi u_.2.1, vi u_.2.2.1, vi u_.2.2.2, .ref mK, vi rm, .ref mH, vi cn]), (mN, aI g 145 N), (mA, aI g 121 Fa)]) (fun _ => rfl) (fun r_47 u_ p_47 => ?_)
      obtain ⟨ii2_47, wo2_47, wd2_47, oe2_47⟩ := u_
      refine r_at (ws' := [(hM, oB 11 [vi wi, vi hi, .ref mN, .ref mC, vi cm, vi ca, .ref mL, vi sc, vi qu, vi fp, .ref mT, vi lm, vi nw, vi nh, vi nr, .ref mF, .ref mR, .ref mD, .ref mA, vi ii2_47, vi wo2_47, vi wd2_47, vi oe2_47, .ref mK, vi rm, .ref mH, vi cn]), (mN, aI g 145 N), (mA, aI g 121 Fa)]) (lv' := [(0, .ref hM), (1, vi a), (2, vi k)]) rfl rfl ?_
      have p_47 : (r_47 = 1 ∧ FT (LXM N sc qu fp) (LYM N sc qu fp) (N 141) wi hi (k % 11) (k / 11) ∧ ii2_47 = sI (gFM Fa (LXM N sc qu fp) (LYM N sc qu fp) (k % 11) (k / 11)) (N 141) ∧ wo2_47 = mxM (gFM Fa (LXM N sc qu fp) (LYM N sc qu fp) (k % 11) (k / 11)) (N 141).toNat ∧ wd2_47 = wdM (gFM Fa (LXM N sc qu fp) (LYM N sc qu fp) (k % 11) (k / 11)) i3 (N 141).toNat ∧ oe2_47 = sI (gFM N (LXM N sc qu fp) (LYM N sc qu fp) (k % 11) (k / 11)) (N 141)) ∨ (r_47 = 0 ∧ ¬ FT (LXM N sc qu fp) (LYM N sc qu fp) (N 141) wi hi (k % 11) (k / 11)) := p_47
      refine r_if_eq C 57 dX12_fits_50 rfl (by omega) (fun c_3 => ?_) (fun c_3 => ?_)
      · skip
        refine r_iconst C dX12_fits_57 ?_
        refine r_iadd C dX12_fits_58 ?_
        refine r_istore_n C (lv' := [(1, vi (a + 0)), (0, .ref hM), (2, vi k)]) dX12_fits_59 rfl rfl ?_
        refine r_iinc C (lv' := [(2, vi (k + 1)), (1, vi (a + 0)), (0, .ref hM)]) dX12_fits_60 2 rfl rfl rfl ?_
        refine r_goto C 4 dX12_fits_63 rfl ?_
        refine r_lv (lv' := [(0, .ref hM), (1, vi (a + 0)), (2, vi (k + 1))]) [2, 1, 0] rfl ?_
        exact ih_4 (k + 1, a + 0, ii2_47, wo2_47, wd2_47, oe2_47) (show (0 ≤ (k + 1) ∧ (k + 1) ≤ 121) ∧ ((a + 0) = sI (fun k9 => if k9 % 11 < wi ∧ k9 / 11 < hi then ftI (LXM N sc qu fp) (LYM N sc qu fp) (N 141) wi hi (k9 % 11) (k9 / 11) else 0) (k + 1)) from ⟨(by omega), (by
      rw [sI_s _ jk.1, ← ja]
      show _ = a + (if k % 11 < wi ∧ k / 11 < hi then ftI (LXM N sc qu fp) (LYM N sc qu fp) (N 141) wi hi (k % 11) (k / 11) else 0)
      first | (rw [if_neg (by omega)]; done) | (rw [if_pos (by omega)]; congr 1; symm; exact pif_f (by rcases p_47 with z | z; omega; exact z.2)))⟩) (show 121 - (k + 1) < 121 - k from by omega)
      · skip
        refine r_iconst C dX12_fits_53 ?_
        refine r_goto C 58 dX12_fits_54 rfl ?_
        refine r_iadd C dX12_fits_58 ?_
        refine r_istore_n C (lv' := [(1, vi (a + 1)), (0, .ref hM), (2, vi k)]) dX12_fits_59 rfl rfl ?_
        refine r_iinc C (lv' := [(2, vi (k + 1)), (1, vi (a + 1)), (0, .ref hM)]) dX12_fits_60 2 rfl rfl rfl ?_
        refine r_goto C 4 dX12_fits_63 rfl ?_
        refine r_lv (lv' := [(0, .ref hM), (1, vi (a + 1)), (2, vi (k + 1))]) [2, 1, 0] rfl ?_
        exact ih_4 (k + 1, a + 1, ii2_47, wo2_47, wd2_47, oe2_47) (show (0 ≤ (k + 1) ∧ (k + 1) ≤ 121) ∧ ((a + 1) = sI (fun k9 => if k9 % 11 < wi ∧ k9 / 11 < hi then ftI (LXM N sc qu fp) (LYM N sc qu fp) (N 141) wi hi (k9 % 11) (k9 / 11) else 0) (k + 1)) from ⟨(by omega), (by
      rw [sI_s _ jk.1, ← ja]
      show _ = a + (if k % 11 < wi ∧ k / 11 < hi then ftI (LXM N sc qu fp) (LYM N sc qu fp) (N 141) wi hi (k % 11) (k / 11) else 0)
      rw [if_pos (by omega)]; congr 1; symm; exact pif_t (by rcases p_47 with z | z; exact z.2.1; omega))⟩) (show 121 - (k + 1) < 121 - k from by omega)
set_option maxHeartbeats 1000000 in
set_option maxRecDepth 100000 in
theorem c_X12_bound (l : Launch) (g : Gx) (hM : Nat) (wi : Int) (hi : Int) (mN : Nat) (mC : Nat) (cm : Int) (ca : Int) (mL : Nat) (sc : Int) (qu : Int) (fp : Int) (mT : Nat) (lm : Int) (nw : Int) (nh : Int) (nr : Int) (mF : Nat) (mR : Nat) (mD : Nat) (mA : Nat) (ii : Int) (wo : Int) (wd : Int) (oe : Int) (mK : Nat) (rm : Int) (mH : Nat) (cn : Int) (N : Int → Int) (Fa : Int → Int) (x : Int) (y : Int) (q : Int) (hN : MOK wi hi N) (kFa : ∀ k : Int, 0 ≤ k → k < 121 → -2147483648 ≤ Fa k ∧ Fa k ≤ 2147483647) (hlk : LKO sc qu fp) (bbx : -2147483648 ≤ x ∧ x ≤ 2147483647) (bby : -2147483648 ≤ y ∧ y ≤ 2147483647) (bbq : -2147483648 ≤ q ∧ q ≤ 2147483647) (sz : Nat) : Met l yX12_bound (.code yX12_bound cX12_bound 12 (some .int) :: wsL_law) { frames := 4, cells := 0, slots := 0, locals := 99 } (PR g [.ref hM, vi x, vi y, vi q] [(hM, oB 11 [vi wi, vi hi, .ref mN, .ref mC, vi cm, vi ca, .ref mL, vi sc, vi qu, vi fp, .ref mT, vi lm, vi nw, vi nh, vi nr, .ref mF, .ref mR, .ref mD, .ref mA, vi ii, vi wo, vi wd, vi oe, .ref mK, vi rm, .ref mH, vi cn]), (mN, aI g 145 N), (mA, aI g 121 Fa)] sz) (PI (S := (Int → Int)) g (fun r u_ => (∀ k : Int, 0 ≤ k → k < 121 → -2147483648 ≤ u_ k ∧ u_ k ≤ 2147483647) ∧ ((r = -1 ∧ ¬ ((0 ≤ x ∧ x < wi ∧ 0 ≤ y ∧ y < hi) ∧ 1 ≤ q ∧ q ≤ 11)) ∨ (((0 ≤ x ∧ x < wi ∧ 0 ≤ y ∧ y < hi) ∧ 1 ≤ q ∧ q ≤ 11) ∧ BND (fun p9 q9 => farS N (N 142) (N 143) p9 q9) wi hi x y q (LXM N sc qu fp) (LYM N sc qu fp) (N 141) r))) (fun u_ => [(hM, oB 11 [vi wi, vi hi, .ref mN, .ref mC, vi cm, vi ca, .ref mL, vi sc, vi qu, vi fp, .ref mT, vi lm, vi nw, vi nh, vi nr, .ref mF, .ref mR, .ref mD, .ref mA, vi ii, vi wo, vi wd, vi oe, .ref mK, vi rm, .ref mH, vi cn]), (mN, aI g 145 N), (mA, aI g 121 u_)]) [(hM, oB 11 [vi wi, vi hi, .ref mN, .ref mC, vi cm, vi ca, .ref mL, vi sc, vi qu, vi fp, .ref mT, vi lm, vi nw, vi nh, vi nr, .ref mF, .ref mR, .ref mD, .ref mA, vi ii, vi wo, vi wd, vi oe, .ref mK, vi rm, .ref mH, vi cn]), (mN, aI g 145 N), (mA, aI g 121 Fa)] sz) 0 0 (va_A [(hM, oB 11 [vi wi, vi hi, .ref mN, .ref mC, vi cm, vi ca, .ref mL, vi sc, vi qu, vi fp, .ref mT, vi lm, vi nw, vi nh, vi nr, .ref mF, .ref mR, .ref mD, .ref mA, vi ii, vi wo, vi wd, vi oe, .ref mK, vi rm, .ref mH, vi cn]), (mN, aI g 145 N), (mA, aI g 121 Fa)] sz) := by
  refine meet (own := RX12) rfl (plainFor_of_name (by decide +kernel)) rfl (fun p_ e_ s_ m_ args_ below_ meth_ c_ C hnm => ?_)
  refine r_at (ws' := [(hM, oB 11 [vi wi, vi hi, .ref mN, .ref mC, vi cm, vi ca, .ref mL, vi sc, vi qu, vi fp, .ref mT, vi lm, vi nw, vi nh, vi nr, .ref mF, .ref mR, .ref mD, .ref mA, vi ii, vi wo, vi wd, vi oe, .ref mK, vi rm, .ref mH, vi cn]), (mN, aI g 145 N), (mA, aI g 121 Fa)]) (lv' := [(0, .ref hM), (1, vi x), (2, vi y), (3, vi q)]) rfl rfl ?_
  obtain ⟨nW, nH, n1, nO, nn, nX, nY, nM, nC, nT⟩ := id hN
  obtain ⟨k3, kt, kf⟩ := id hlk
  refine r_aload_n C dX12_bound_0 0 rfl ?_
  refine r_iload_n C dX12_bound_1 1 rfl ?_
  refine r_iload_n C dX12_bound_2 2 rfl ?_
  refine k_Vi C kv_X12_120 (fun sz => c_X12_isCell l g hM wi hi mN mC cm ca mL sc qu fp mT lm nw nh nr mF mR mD mA ii wo wd oe mK rm mH cn x y nW nH (by omega) (by omega) sz) dX12_bound_3 rfl rfl rfl ⟨rfl, rfl⟩ 0 11 rfl rfl rfl [0] rfl rfl (fun _ => rfl) (ws' := fun u_ => [(hM, oB 11 [vi wi, vi hi, .ref mN, .ref mC, vi cm, vi ca, .ref mL, vi sc, vi qu, vi fp, .ref mT, vi lm, vi nw, vi nh, vi nr, .ref mF, .ref mR, .ref mD, .ref mA, vi ii, vi wo, vi wd, vi oe, .ref mK, vi rm, .ref mH, vi cn]), (mN, aI g 145 N), (mA, aI g 121 Fa)]) (fun _ => rfl) (fun r_3 u_ p_3 => ?_)
  have p_3 : (r_3 = 1 ∧ 0 ≤ x ∧ x < wi ∧ 0 ≤ y ∧ y < hi) ∨ (r_3 = 0 ∧ ¬ (0 ≤ x ∧ x < wi ∧ 0 ≤ y ∧ y < hi)) := p_3
  refine r_if_eq C 19 dX12_bound_6 rfl (by omega) (fun c_1 => ?_) (fun c_1 => ?_)
  · skip
    refine r_iconst C dX12_bound_19 ?_
    exact e_i C Fa dX12_bound_20 (show (∀ k : Int, 0 ≤ k → k < 121 → -2147483648 ≤ Fa k ∧ Fa k ≤ 2147483647) ∧ (((-1) = -1 ∧ ¬ ((0 ≤ x ∧ x < wi ∧ 0 ≤ y ∧ y < hi) ∧ 1 ≤ q ∧ q ≤ 11)) ∨ (((0 ≤ x ∧ x < wi ∧ 0 ≤ y ∧ y < hi) ∧ 1 ≤ q ∧ q ≤ 11) ∧ BND (fun p9 q9 => farS N (N 142) (N 143) p9 q9) wi hi x y q (LXM N sc qu fp) (LYM N sc qu fp) (N 141) (-1))) from ⟨kFa, Or.inl ⟨rfl, by omega⟩⟩) rfl
  · skip
    refine r_iload_n C dX12_bound_9 3 rfl ?_
    refine r_iconst C dX12_bound_10 ?_
    refine r_bipush C dX12_bound_11 rfl ?_
    refine k_Si C ks_X12_58 (fun sz => c_X12_in l g q 1 11 (by omega) (by omega) (by omega) sz) dX12_bound_13 rfl rfl rfl ⟨rfl, rfl⟩ [] rfl rfl (fun _ => rfl) (ws' := fun u_ => [(hM, oB 11 [vi wi, vi hi, .ref mN, .ref mC, vi cm, vi ca, .ref mL, vi sc, vi qu, vi fp, .ref mT, vi lm, vi nw, vi nh, vi nr, .ref mF, .ref mR, .ref mD, .ref mA, vi ii, vi wo, vi wd, vi oe, .ref mK, vi rm, .ref mH, vi cn]), (mN, aI g 145 N), (mA, aI g 121 Fa)]) (fun _ => rfl) (fun r_13 u_ p_13 => ?_)
    have p_13 : (r_13 = 1 ∧ 1 ≤ q ∧ q ≤ 11) ∨ (r_13 = 0 ∧ ¬ (1 ≤ q ∧ q ≤ 11)) := p_13
    refine r_if_ne C 21 dX12_bound_16 rfl (by omega) (fun c_2 => ?_) (fun c_2 => ?_)
    · skip
      refine r_aload_n C dX12_bound_21 0 rfl ?_
      refine k_Vv C kv_X12_161 (fun sz => c_X12_laysFars l g hM wi hi mN mC cm ca mL sc qu fp mT lm nw nh nr mF mR mD mA ii wo wd oe mK rm mH cn N Fa hN kFa sz) dX12_bound_22 rfl rfl rfl ⟨rfl, rfl⟩ 0 11 rfl rfl rfl [0, 1, 2] rfl rfl (fun _ => rfl) (ws' := fun u_ => [(hM, oB 11 [vi wi, vi hi, .ref mN, .ref mC, vi cm, vi ca, .ref mL, vi sc, vi qu, vi fp, .ref mT, vi lm, vi nw, vi nh, vi nr, .ref mF, .ref mR, .ref mD, .ref mA, vi ii, vi wo, vi wd, vi oe, .ref mK, vi rm, .ref mH, vi cn]), (mN, aI g 145 N), (mA, aI g 121 u_)]) (fun _ => rfl) (fun u_ p_22 => ?_)
      obtain ⟨A2_22, rfl⟩ : ∃ w_, w_ = u_ := ⟨_, rfl⟩
      refine r_at (ws' := [(hM, oB 11 [vi wi, vi hi, .ref mN, .ref mC, vi cm, vi ca, .ref mL, vi sc, vi qu, vi fp, .ref mT, vi lm, vi nw, vi nh, vi nr, .ref mF, .ref mR, .ref mD, .ref mA, vi ii, vi wo, vi wd, vi oe, .ref mK, vi rm, .ref mH, vi cn]), (mN, aI g 145 N), (mA, aI g 121 A2_22)]) (lv' := [(0, .ref hM), (1, vi x), (2, vi y), (3, vi q)]) rfl rfl ?_
      have p_22 : FAM wi hi N A2_22 ∧ ∀ k : Int, 0 ≤ k → k < 121 → -2147483648 ≤ A2_22 k ∧ A2_22 k ≤ 2147483647 := p_22
      refine r_iconst C dX12_bound_25 ?_
      refine r_istore C (lv' := [(4, vi 0), (0, .ref hM), (1, vi x), (2, vi y), (3, vi q)]) dX12_bound_26 rfl rfl ?_
      have hsq := sq_b (s := q) (by omega)
      refine r_iconst C dX12_bound_28 ?_
      refine r_istore C (lv' := [(5, vi 0), (4, vi 0), (0, .ref hM), (1, vi x), (2, vi y), (3, vi q)]) dX12_bound_29 rfl rfl ?_
      refine r_lv (lv' := [(0, .ref hM), (1, vi x), (2, vi y), (3, vi q), (4, vi 0), (5, vi 0)]) [2, 3, 4, 5, 1, 0] rfl ?_
      refine r_loop (σ := Int × Int) (fun z_ => (0 ≤ z_.1 ∧ z_.1 ≤ N 141) ∧ (∃ V : Int → Int, (∀ k9 : Int, 0 ≤ k9 → k9 < z_.1 → BDS (fun p9 q9 => farS N (N 142) (N 143) p9 q9) wi hi x y q (LXM N sc qu fp k9) (LYM N sc qu fp k9) (V k9) ∧ 0 ≤ V k9) ∧ z_.2 = sI V z_.1)) (fun z_ => N 141 - z_.1) (fun z_ => [(hM, oB 11 [vi wi, vi hi, .ref mN, .ref mC, vi cm, vi ca, .ref mL, vi sc, vi qu, vi fp, .ref mT, vi lm, vi nw, vi nh, vi nr, .ref mF, .ref mR, .ref mD, .ref mA, vi ii, vi wo, vi wd, vi oe, .ref mK, vi rm, .ref mH, vi cn]), (mN, aI g 145 N), (mA, aI g 121 A2_22)]) (fun z_ => [(0, .ref hM), (1, vi x), (2, vi y), (3, vi q), (4, vi z_.2), (5, vi z_.1)]) (fun z_ hz => ?_) (fun z_ hz ih_31 => ?_) (((0, 0) : Int × Int)) ?_
      · obtain ⟨d, a⟩ := z_
        obtain ⟨jd, ja⟩ := hz
        have jd : 0 ≤ d ∧ d ≤ N 141 := jd
        have ja : ∃ V : Int → Int, (∀ k9 : Int, 0 ≤ k9 → k9 < d → BDS (fun p9 q9 => farS N (N 142) (N 143) p9 q9) wi hi x y q (LXM N sc qu fp k9) (LYM N sc qu fp k9) (V k9) ∧ 0 ≤ V k9) ∧ a = sI V d := ja
        show (0 : Int) ≤ N 141 - d
        omega
      rotate_left
      · show (0 ≤ 0 ∧ 0 ≤ N 141) ∧ (∃ V : Int → Int, (∀ k9 : Int, 0 ≤ k9 → k9 < 0 → BDS (fun p9 q9 => farS N (N 142) (N 143) p9 q9) wi hi x y q (LXM N sc qu fp k9) (LYM N sc qu fp k9) (V k9) ∧ 0 ≤ V k9) ∧ 0 = sI V 0)
        exact ⟨(by omega), (⟨fun _ => 0, fun k a b => by omega, rfl⟩)⟩
      obtain ⟨d, a⟩ := z_
      obtain ⟨jd, ja⟩ := hz
      have jd : 0 ≤ d ∧ d ≤ N 141 := jd
      have ja : ∃ V : Int → Int, (∀ k9 : Int, 0 ≤ k9 → k9 < d → BDS (fun p9 q9 => farS N (N 142) (N 143) p9 q9) wi hi x y q (LXM N sc qu fp k9) (LYM N sc qu fp k9) (V k9) ∧ 0 ≤ V k9) ∧ a = sI V d := ja
      refine r_at (ws' := [(hM, oB 11 [vi wi, vi hi, .ref mN, .ref mC, vi cm, vi ca, .ref mL, vi sc, vi qu, vi fp, .ref mT, vi lm, vi nw, vi nh, vi nr, .ref mF, .ref mR, .ref mD, .ref mA, vi ii, vi wo, vi wd, vi oe, .ref mK, vi rm, .ref mH, vi cn]), (mN, aI g 145 N), (mA, aI g 121 A2_22)]) (lv' := [(0, .ref hM), (1, vi x), (2, vi y), (3, vi q), (4, vi a), (5, vi d)]) rfl rfl ?_
      refine r_iload C dX12_bound_31 5 rfl ?_
      refine r_aload_n C dX12_bound_33 0 rfl ?_
      refine gf_X12_7 C dX12_bound_34 0 rfl rfl ?_
      refine r_sipush C dX12_bound_37 rfl ?_
      refine r_iald C dX12_bound_40 1 rfl rfl (by omega) ?_
      refine r_icmp_ge C 208 dX12_bound_41 rfl (by omega) (fun c_3 => ?_) (fun c_3 => ?_)
      · skip
        refine r_iload C dX12_bound_208 4 rfl ?_
        exact e_i C A2_22 dX12_bound_210 (show (∀ k : Int, 0 ≤ k → k < 121 → -2147483648 ≤ A2_22 k ∧ A2_22 k ≤ 2147483647) ∧ ((a = -1 ∧ ¬ ((0 ≤ x ∧ x < wi ∧ 0 ≤ y ∧ y < hi) ∧ 1 ≤ q ∧ q ≤ 11)) ∨ (((0 ≤ x ∧ x < wi ∧ 0 ≤ y ∧ y < hi) ∧ 1 ≤ q ∧ q ≤ 11) ∧ BND (fun p9 q9 => farS N (N 142) (N 143) p9 q9) wi hi x y q (LXM N sc qu fp) (LYM N sc qu fp) (N 141) a)) from ⟨p_22.2, Or.inr ⟨by omega, Or.inr (by
      obtain ⟨V, v1, v2⟩ := ja
      exact ⟨V, fun k k0 k1 => v1 k k0 (by omega), by rw [v2, show d = N 141 by omega]⟩)⟩⟩) rfl
      · skip
        refine r_ldc C (n := 2147483647) (in_r27 (List.mem_of_getElem? (i := 16) rfl)) rfl dX12_bound_44 ?_
        refine r_istore C (lv' := [(6, vi 2147483647), (0, .ref hM), (1, vi x), (2, vi y), (3, vi q), (4, vi a), (5, vi d)]) dX12_bound_46 rfl rfl ?_
        refine r_iconst C dX12_bound_48 ?_
        refine r_istore C (lv' := [(7, vi 0), (6, vi 2147483647), (0, .ref hM), (1, vi x), (2, vi y), (3, vi q), (4, vi a), (5, vi d)]) dX12_bound_49 rfl rfl ?_
        refine r_lv (lv' := [(0, .ref hM), (1, vi x), (2, vi y), (3, vi q), (4, vi a), (5, vi d), (6, vi 2147483647), (7, vi 0)]) [2, 3, 4, 5, 6, 7, 1, 0] rfl ?_
        refine r_loop (σ := Int × Int) (fun z_ => (0 ≤ z_.1 ∧ z_.1 ≤ q * q) ∧ (0 ≤ z_.2 ∧ z_.2 ≤ 2147483647) ∧ (BDP (fun p9 q9 => farS N (N 142) (N 143) p9 q9) wi hi x y q (LXM N sc qu fp d) (LYM N sc qu fp d) z_.2 z_.1)) (fun z_ => q * q - z_.1) (fun z_ => [(hM, oB 11 [vi wi, vi hi, .ref mN, .ref mC, vi cm, vi ca, .ref mL, vi sc, vi qu, vi fp, .ref mT, vi lm, vi nw, vi nh, vi nr, .ref mF, .ref mR, .ref mD, .ref mA, vi ii, vi wo, vi wd, vi oe, .ref mK, vi rm, .ref mH, vi cn]), (mN, aI g 145 N), (mA, aI g 121 A2_22)]) (fun z_ => [(0, .ref hM), (1, vi x), (2, vi y), (3, vi q), (4, vi a), (5, vi d), (6, vi z_.2), (7, vi z_.1)]) (fun z_ hz => ?_) (fun z_ hz ih_51 => ?_) (((0, 2147483647) : Int × Int)) ?_
        · obtain ⟨k, b⟩ := z_
          obtain ⟨jk, jbb, jB⟩ := hz
          have jk : 0 ≤ k ∧ k ≤ q * q := jk
          have jbb : 0 ≤ b ∧ b ≤ 2147483647 := jbb
          have jB : BDP (fun p9 q9 => farS N (N 142) (N 143) p9 q9) wi hi x y q (LXM N sc qu fp d) (LYM N sc qu fp d) b k := jB
          show (0 : Int) ≤ q * q - k
          omega
        rotate_left
        · show (0 ≤ 0 ∧ 0 ≤ q * q) ∧ (0 ≤ 2147483647 ∧ 2147483647 ≤ 2147483647) ∧ (BDP (fun p9 q9 => farS N (N 142) (N 143) p9 q9) wi hi x y q (LXM N sc qu fp d) (LYM N sc qu fp d) 2147483647 0)
          exact ⟨(by omega), (by decide), (Or.inl ⟨rfl, fun k a b => by omega⟩)⟩
        obtain ⟨k, b⟩ := z_
        obtain ⟨jk, jbb, jB⟩ := hz
        have jk : 0 ≤ k ∧ k ≤ q * q := jk
        have jbb : 0 ≤ b ∧ b ≤ 2147483647 := jbb
        have jB : BDP (fun p9 q9 => farS N (N 142) (N 143) p9 q9) wi hi x y q (LXM N sc qu fp d) (LYM N sc qu fp d) b k := jB
        refine r_at (ws' := [(hM, oB 11 [vi wi, vi hi, .ref mN, .ref mC, vi cm, vi ca, .ref mL, vi sc, vi qu, vi fp, .ref mT, vi lm, vi nw, vi nh, vi nr, .ref mF, .ref mR, .ref mD, .ref mA, vi ii, vi wo, vi wd, vi oe, .ref mK, vi rm, .ref mH, vi cn]), (mN, aI g 145 N), (mA, aI g 121 A2_22)]) (lv' := [(0, .ref hM), (1, vi x), (2, vi y), (3, vi q), (4, vi a), (5, vi d), (6, vi b), (7, vi k)]) rfl rfl ?_
        refine r_iload C dX12_bound_51 7 rfl ?_
        refine r_iload_n C dX12_bound_53 3 rfl ?_
        refine r_iload_n C dX12_bound_54 3 rfl ?_
        refine r_imul C dX12_bound_55 ?_
        refine r_icmp_ge C 185 dX12_bound_56 rfl (by omega) (fun c_4 => ?_) (fun c_4 => ?_)
        · skip
          have jB9 : BDP (fun p9 q9 => farS N (N 142) (N 143) p9 q9) wi hi x y q (LXM N sc qu fp d) (LYM N sc qu fp d) b (q * q) := by rw [show q * q = k by omega]; exact jB
          refine r_iload C dX12_bound_185 6 rfl ?_
          refine r_ldc C (n := 2147483647) (in_r27 (List.mem_of_getElem? (i := 16) rfl)) rfl dX12_bound_187 ?_
          refine r_icmp_ne C 195 dX12_bound_189 rfl (by omega) (fun c_5 => ?_) (fun c_5 => ?_)
          · skip
            refine r_iload C dX12_bound_195 4 rfl ?_
            refine r_iload C dX12_bound_197 6 rfl ?_
            refine r_iadd C dX12_bound_199 ?_
            refine r_istore C (lv' := [(4, vi (a + b)), (0, .ref hM), (1, vi x), (2, vi y), (3, vi q), (5, vi d), (6, vi b), (7, vi k)]) dX12_bound_200 rfl rfl ?_
            refine r_iinc C (lv' := [(5, vi (d + 1)), (4, vi (a + b)), (0, .ref hM), (1, vi x), (2, vi y), (3, vi q), (6, vi b), (7, vi k)]) dX12_bound_202 5 rfl rfl rfl ?_
            refine r_goto C 31 dX12_bound_205 rfl ?_
            refine r_lv (lv' := [(0, .ref hM), (1, vi x), (2, vi y), (3, vi q), (4, vi (a + b)), (5, vi (d + 1))]) [2, 3, 4, 5, 1, 0] rfl ?_
            exact ih_31 (d + 1, a + b) (show (0 ≤ (d + 1) ∧ (d + 1) ≤ N 141) ∧ (∃ V : Int → Int, (∀ k9 : Int, 0 ≤ k9 → k9 < (d + 1) → BDS (fun p9 q9 => farS N (N 142) (N 143) p9 q9) wi hi x y q (LXM N sc qu fp k9) (LYM N sc qu fp k9) (V k9) ∧ 0 ≤ V k9) ∧ (a + b) = sI V (d + 1)) from ⟨(by omega), (by
      obtain ⟨V, v1, v2⟩ := ja
      refine ⟨zU V d b, fun k9 k0 k1 => ?_, ?_⟩
      · by_cases e : k9 = d
        · subst e; rw [zU_eq]; exact ⟨BDP_yes (by omega) (by omega) (by omega) jB9, by omega⟩
        · rw [zU_ne _ _ e]; exact v1 k9 k0 (by omega)
      · rw [sI_s _ jd.1, zU_eq, v2, sI_cong (f := zU V d b) (g := V) (fun k k0 k1 => zU_ne _ _ (by omega))])⟩) (show N 141 - (d + 1) < N 141 - d from by omega)
          · skip
            refine r_bipush C dX12_bound_192 rfl ?_
            exact e_i C A2_22 dX12_bound_194 (show (∀ k : Int, 0 ≤ k → k < 121 → -2147483648 ≤ A2_22 k ∧ A2_22 k ≤ 2147483647) ∧ (((-4) = -1 ∧ ¬ ((0 ≤ x ∧ x < wi ∧ 0 ≤ y ∧ y < hi) ∧ 1 ≤ q ∧ q ≤ 11)) ∨ (((0 ≤ x ∧ x < wi ∧ 0 ≤ y ∧ y < hi) ∧ 1 ≤ q ∧ q ≤ 11) ∧ BND (fun p9 q9 => farS N (N 142) (N 143) p9 q9) wi hi x y q (LXM N sc qu fp) (LYM N sc qu fp) (N 141) (-4))) from ⟨p_22.2, Or.inr ⟨by omega, Or.inl ⟨rfl, d, jd.1, by omega, by
      rw [show b = 2147483647 by omega] at jB9
      exact BDP_no (by omega) (by omega) (fun u v => by show farS N (N 142) (N 143) u v ≤ 99; have := farS_c N (N 142) (N 143) u v; omega) jB9⟩⟩⟩) rfl
        · skip
          have hkq := sq_in (s := q) (k := k) (by omega) jk.1 (by omega)
          refine r_iload_n C dX12_bound_59 1 rfl ?_
          refine r_iload C dX12_bound_60 7 rfl ?_
          refine r_iload_n C dX12_bound_62 3 rfl ?_
          refine r_irem C dX12_bound_63 (by omega) ?_
          refine r_iadd C dX12_bound_64 ?_
          refine r_istore C (lv' := [(8, vi (x + (k % q))), (0, .ref hM), (1, vi x), (2, vi y), (3, vi q), (4, vi a), (5, vi d), (6, vi b), (7, vi k)]) dX12_bound_65 rfl rfl ?_
          refine r_iload_n C dX12_bound_67 3 rfl ?_
          refine r_iload C dX12_bound_68 8 rfl ?_
          refine r_iload_n C dX12_bound_70 4 rfl ?_
          refine r_idiv C dX12_bound_71 (by omega) ?_
          refine r_iadd C dX12_bound_72 ?_
          refine r_istore C (lv' := [(9, vi (y + (k / q))), (8, vi (x + (k % q))), (0, .ref hM), (1, vi x), (2, vi y), (3, vi q), (4, vi a), (5, vi d), (6, vi b), (7, vi k)]) dX12_bound_73 rfl rfl ?_
          refine r_iload C dX12_bound_75 1 rfl ?_
          refine r_aload_n C dX12_bound_77 2 rfl ?_
          refine r_iload C dX12_bound_78 7 rfl ?_
          refine r_aload_n C dX12_bound_80 2 rfl ?_
          refine gf_X12_19 C dX12_bound_81 0 rfl rfl ?_
          refine r_aload_n C dX12_bound_84 2 rfl ?_
          refine gf_X12_108 C dX12_bound_85 0 rfl rfl ?_
          refine r_aload_n C dX12_bound_88 2 rfl ?_
          refine gf_X12_111 C dX12_bound_89 0 rfl rfl ?_
          refine k_Vi C kv_X12_143 (fun sz => c_X12_liesX l g hM wi hi mN mC cm ca mL sc qu fp mT lm nw nh nr mF mR mD mA ii wo wd oe mK rm mH cn N d sc qu fp (by omega) nX nY k3 kt kf sz) dX12_bound_92 rfl rfl rfl ⟨rfl, rfl⟩ 0 11 rfl rfl rfl [0, 1] rfl rfl (fun _ => rfl) (ws' := fun u_ => [(hM, oB 11 [vi wi, vi hi, .ref mN, .ref mC, vi cm, vi ca, .ref mL, vi sc, vi qu, vi fp, .ref mT, vi lm, vi nw, vi nh, vi nr, .ref mF, .ref mR, .ref mD, .ref mA, vi ii, vi wo, vi wd, vi oe, .ref mK, vi rm, .ref mH, vi cn]), (mN, aI g 145 N), (mA, aI g 121 A2_22)]) (fun _ => rfl) (fun r_92 u_ p_92 => ?_)
          have p_92 : r_92 = lX sc qu fp (N (121 + d)) (N (131 + d)) := p_92
          refine r_eq (y := (LXM N sc qu fp d)) p_92 ?_
          refine r_iadd C dX12_bound_95 ?_
          refine r_istore C (lv' := [(10, vi ((x + (k % q)) + (LXM N sc qu fp d))), (9, vi (y + (k / q))), (8, vi (x + (k % q))), (0, .ref hM), (1, vi x), (2, vi y), (3, vi q), (4, vi a), (5, vi d), (6, vi b), (7, vi k)]) dX12_bound_96 rfl rfl ?_
          refine r_iload C dX12_bound_98 1 rfl ?_
          refine r_aload_n C dX12_bound_100 3 rfl ?_
          refine r_iload C dX12_bound_101 8 rfl ?_
          refine r_aload_n C dX12_bound_103 3 rfl ?_
          refine gf_X12_19 C dX12_bound_104 0 rfl rfl ?_
          refine r_aload_n C dX12_bound_107 3 rfl ?_
          refine gf_X12_108 C dX12_bound_108 0 rfl rfl ?_
          refine r_aload_n C dX12_bound_111 3 rfl ?_
          refine gf_X12_111 C dX12_bound_112 0 rfl rfl ?_
          refine k_Vi C kv_X12_146 (fun sz => c_X12_liesY l g hM wi hi mN mC cm ca mL sc qu fp mT lm nw nh nr mF mR mD mA ii wo wd oe mK rm mH cn N d sc qu fp (by omega) nX nY k3 kt kf sz) dX12_bound_115 rfl rfl rfl ⟨rfl, rfl⟩ 0 11 rfl rfl rfl [0, 1] rfl rfl (fun _ => rfl) (ws' := fun u_ => [(hM, oB 11 [vi wi, vi hi, .ref mN, .ref mC, vi cm, vi ca, .ref mL, vi sc, vi qu, vi fp, .ref mT, vi lm, vi nw, vi nh, vi nr, .ref mF, .ref mR, .ref mD, .ref mA, vi ii, vi wo, vi wd, vi oe, .ref mK, vi rm, .ref mH, vi cn]), (mN, aI g 145 N), (mA, aI g 121 A2_22)]) (fun _ => rfl) (fun r_115 u_ p_115 => ?_)
          have p_115 : r_115 = lY sc qu fp (N (121 + d)) (N (131 + d)) := p_115
          refine r_eq (y := (LYM N sc qu fp d)) p_115 ?_
          refine r_iadd C dX12_bound_118 ?_
          refine r_istore C (lv' := [(11, vi ((y + (k / q)) + (LYM N sc qu fp d))), (10, vi ((x + (k % q)) + (LXM N sc qu fp d))), (9, vi (y + (k / q))), (8, vi (x + (k % q))), (0, .ref hM), (1, vi x), (2, vi y), (3, vi q), (4, vi a), (5, vi d), (6, vi b), (7, vi k)]) dX12_bound_119 rfl rfl ?_
          have hbX : -30 ≤ LXM N sc qu fp d ∧ LXM N sc qu fp d ≤ 30 := lX_bd (nX d (by omega) (by omega)) (nY d (by omega) (by omega)) k3
          have hbY : -30 ≤ LYM N sc qu fp d ∧ LYM N sc qu fp d ≤ 30 := lY_bd (nX d (by omega) (by omega)) (nY d (by omega) (by omega)) k3
          refine r_aload_n C dX12_bound_121 4 rfl ?_
          refine r_iload C dX12_bound_122 3 rfl ?_
          refine r_iload C dX12_bound_124 2 rfl ?_
          refine k_Vi C kv_X12_120 (fun sz => c_X12_isCell l g hM wi hi mN mC cm ca mL sc qu fp mT lm nw nh nr mF mR mD mA ii wo wd oe mK rm mH cn (x + (k % q)) (y + (k / q)) nW nH (by omega) (by omega) sz) dX12_bound_126 rfl rfl rfl ⟨rfl, rfl⟩ 0 11 rfl rfl rfl [0] rfl rfl (fun _ => rfl) (ws' := fun u_ => [(hM, oB 11 [vi wi, vi hi, .ref mN, .ref mC, vi cm, vi ca, .ref mL, vi sc, vi qu, vi fp, .ref mT, vi lm, vi nw, vi nh, vi nr, .ref mF, .ref mR, .ref mD, .ref mA, vi ii, vi wo, vi wd, vi oe, .ref mK, vi rm, .ref mH, vi cn]), (mN, aI g 145 N), (mA, aI g 121 A2_22)]) (fun _ => rfl) (fun r_126 u_ p_126 => ?_)
          have p_126 : (r_126 = 1 ∧ 0 ≤ (x + (k % q)) ∧ (x + (k % q)) < wi ∧ 0 ≤ (y + (k / q)) ∧ (y + (k / q)) < hi) ∨ (r_126 = 0 ∧ ¬ (0 ≤ (x + (k % q)) ∧ (x + (k % q)) < wi ∧ 0 ≤ (y + (k / q)) ∧ (y + (k / q)) < hi)) := p_126
          refine r_if_eq C 175 dX12_bound_129 rfl (by omega) (fun c_6 => ?_) (fun c_6 => ?_)
          · skip
            refine r_iload C dX12_bound_175 10 rfl ?_
            refine r_istore C (lv' := [(6, vi b), (11, vi ((y + (k / q)) + (LYM N sc qu fp d))), (10, vi ((x + (k % q)) + (LXM N sc qu fp d))), (9, vi (y + (k / q))), (8, vi (x + (k % q))), (0, .ref hM), (1, vi x), (2, vi y), (3, vi q), (4, vi a), (5, vi d), (7, vi k)]) dX12_bound_177 rfl rfl ?_
            refine r_iinc C (lv' := [(7, vi (k + 1)), (6, vi b), (11, vi ((y + (k / q)) + (LYM N sc qu fp d))), (10, vi ((x + (k % q)) + (LXM N sc qu fp d))), (9, vi (y + (k / q))), (8, vi (x + (k % q))), (0, .ref hM), (1, vi x), (2, vi y), (3, vi q), (4, vi a), (5, vi d)]) dX12_bound_179 11 rfl rfl rfl ?_
            refine r_goto C 51 dX12_bound_182 rfl ?_
            refine r_lv (lv' := [(0, .ref hM), (1, vi x), (2, vi y), (3, vi q), (4, vi a), (5, vi d), (6, vi b), (7, vi (k + 1))]) [6, 7, 8, 9, 10, 11, 1, 0] rfl ?_
            exact ih_51 (k + 1, b) (show (0 ≤ (k + 1) ∧ (k + 1) ≤ q * q) ∧ (0 ≤ b ∧ b ≤ 2147483647) ∧ (BDP (fun p9 q9 => farS N (N 142) (N 143) p9 q9) wi hi x y q (LXM N sc qu fp d) (LYM N sc qu fp d) b (k + 1)) from ⟨(by omega), (by omega), (by first | exact BDP_skip (by omega) jB | exact BDP_old (fr := (fun p9 q9 => farS N (N 142) (N 143) p9 q9)) (by show b ≤ farS N (N 142) (N 143) _ _; omega) (by show farS N (N 142) (N 143) _ _ ≤ 99; omega) jB)⟩) (show q * q - (k + 1) < q * q - k from by omega)
          · skip
            refine r_aload_n C dX12_bound_132 4 rfl ?_
            refine r_iload C dX12_bound_133 1 rfl ?_
            refine r_iload C dX12_bound_135 0 rfl ?_
            refine k_Vi C kv_X12_120 (fun sz => c_X12_isCell l g hM wi hi mN mC cm ca mL sc qu fp mT lm nw nh nr mF mR mD mA ii wo wd oe mK rm mH cn ((x + (k % q)) + (LXM N sc qu fp d)) ((y + (k / q)) + (LYM N sc qu fp d)) nW nH (by omega) (by omega) sz) dX12_bound_137 rfl rfl rfl ⟨rfl, rfl⟩ 0 11 rfl rfl rfl [0] rfl rfl (fun _ => rfl) (ws' := fun u_ => [(hM, oB 11 [vi wi, vi hi, .ref mN, .ref mC, vi cm, vi ca, .ref mL, vi sc, vi qu, vi fp, .ref mT, vi lm, vi nw, vi nh, vi nr, .ref mF, .ref mR, .ref mD, .ref mA, vi ii, vi wo, vi wd, vi oe, .ref mK, vi rm, .ref mH, vi cn]), (mN, aI g 145 N), (mA, aI g 121 A2_22)]) (fun _ => rfl) (fun r_137 u_ p_137 => ?_)
            have p_137 : (r_137 = 1 ∧ 0 ≤ ((x + (k % q)) + (LXM N sc qu fp d)) ∧ ((x + (k % q)) + (LXM N sc qu fp d)) < wi ∧ 0 ≤ ((y + (k / q)) + (LYM N sc qu fp d)) ∧ ((y + (k / q)) + (LYM N sc qu fp d)) < hi) ∨ (r_137 = 0 ∧ ¬ (0 ≤ ((x + (k % q)) + (LXM N sc qu fp d)) ∧ ((x + (k % q)) + (LXM N sc qu fp d)) < wi ∧ 0 ≤ ((y + (k / q)) + (LYM N sc qu fp d)) ∧ ((y + (k / q)) + (LYM N sc qu fp d)) < hi)) := p_137
            refine r_if_eq C 175 dX12_bound_140 rfl (by omega) (fun c_7 => ?_) (fun c_7 => ?_)
            · skip
              refine r_iload C dX12_bound_175 10 rfl ?_
              refine r_istore C (lv' := [(6, vi b), (11, vi ((y + (k / q)) + (LYM N sc qu fp d))), (10, vi ((x + (k % q)) + (LXM N sc qu fp d))), (9, vi (y + (k / q))), (8, vi (x + (k % q))), (0, .ref hM), (1, vi x), (2, vi y), (3, vi q), (4, vi a), (5, vi d), (7, vi k)]) dX12_bound_177 rfl rfl ?_
              refine r_iinc C (lv' := [(7, vi (k + 1)), (6, vi b), (11, vi ((y + (k / q)) + (LYM N sc qu fp d))), (10, vi ((x + (k % q)) + (LXM N sc qu fp d))), (9, vi (y + (k / q))), (8, vi (x + (k % q))), (0, .ref hM), (1, vi x), (2, vi y), (3, vi q), (4, vi a), (5, vi d)]) dX12_bound_179 11 rfl rfl rfl ?_
              refine r_goto C 51 dX12_bound_182 rfl ?_
              refine r_lv (lv' := [(0, .ref hM), (1, vi x), (2, vi y), (3, vi q), (4, vi a), (5, vi d), (6, vi b), (7, vi (k + 1))]) [6, 7, 8, 9, 10, 11, 1, 0] rfl ?_
              exact ih_51 (k + 1, b) (show (0 ≤ (k + 1) ∧ (k + 1) ≤ q * q) ∧ (0 ≤ b ∧ b ≤ 2147483647) ∧ (BDP (fun p9 q9 => farS N (N 142) (N 143) p9 q9) wi hi x y q (LXM N sc qu fp d) (LYM N sc qu fp d) b (k + 1)) from ⟨(by omega), (by omega), (by first | exact BDP_skip (by omega) jB | exact BDP_old (fr := (fun p9 q9 => farS N (N 142) (N 143) p9 q9)) (by show b ≤ farS N (N 142) (N 143) _ _; omega) (by show farS N (N 142) (N 143) _ _ ≤ 99; omega) jB)⟩) (show q * q - (k + 1) < q * q - k from by omega)
            · skip
              have hfe : A2_22 (11 * (y + k / q + LYM N sc qu fp d) + (x + k % q + LXM N sc qu fp d)) = farS N (N 142) (N 143) (x + k % q + LXM N sc qu fp d) (y + k / q + LYM N sc qu fp d) := p_22.1 _ _ (by omega) (by omega) (by omega) (by omega)
              have hf1 := farS_nn (E := N) (m := N 142) (c := N 143) (x := x + k % q + LXM N sc qu fp d) (y := y + k / q + LYM N sc qu fp d) (by omega)
              have hf2 := farS_c N (N 142) (N 143) (x + k % q + LXM N sc qu fp d) (y + k / q + LYM N sc qu fp d)
              refine r_aload_n C dX12_bound_143 4 rfl ?_
              refine gf_X12_35 C dX12_bound_144 0 rfl rfl ?_
              refine r_iload C dX12_bound_147 1 rfl ?_
              refine r_iload C dX12_bound_149 0 rfl ?_
              refine k_Si C ks_X12_50 (fun sz => c_X12_at l g ((x + (k % q)) + (LXM N sc qu fp d)) ((y + (k / q)) + (LYM N sc qu fp d)) sz) dX12_bound_151 rfl rfl rfl ⟨rfl, rfl⟩ [] rfl rfl (fun _ => rfl) (ws' := fun u_ => [(hM, oB 11 [vi wi, vi hi, .ref mN, .ref mC, vi cm, vi ca, .ref mL, vi sc, vi qu, vi fp, .ref mT, vi lm, vi nw, vi nh, vi nr, .ref mF, .ref mR, .ref mD, .ref mA, vi ii, vi wo, vi wd, vi oe, .ref mK, vi rm, .ref mH, vi cn]), (mN, aI g 145 N), (mA, aI g 121 A2_22)]) (fun _ => rfl) (fun r_151 u_ p_151 => ?_)
              have p_151 : r_151 = 11 * ((y + (k / q)) + (LYM N sc qu fp d)) + ((x + (k % q)) + (LXM N sc qu fp d)) := p_151
              refine r_eq (y := (11 * (y + k / q + LYM N sc qu fp d) + (x + k % q + LXM N sc qu fp d))) p_151 ?_
              refine r_iald C dX12_bound_154 2 rfl rfl (by omega) ?_
              refine r_iload C dX12_bound_155 10 rfl ?_
              refine r_icmp_ge C 175 dX12_bound_157 rfl (by omega) (fun c_8 => ?_) (fun c_8 => ?_)
              · skip
                refine r_iload C dX12_bound_175 10 rfl ?_
                refine r_istore C (lv' := [(6, vi b), (11, vi ((y + (k / q)) + (LYM N sc qu fp d))), (10, vi ((x + (k % q)) + (LXM N sc qu fp d))), (9, vi (y + (k / q))), (8, vi (x + (k % q))), (0, .ref hM), (1, vi x), (2, vi y), (3, vi q), (4, vi a), (5, vi d), (7, vi k)]) dX12_bound_177 rfl rfl ?_
                refine r_iinc C (lv' := [(7, vi (k + 1)), (6, vi b), (11, vi ((y + (k / q)) + (LYM N sc qu fp d))), (10, vi ((x + (k % q)) + (LXM N sc qu fp d))), (9, vi (y + (k / q))), (8, vi (x + (k % q))), (0, .ref hM), (1, vi x), (2, vi y), (3, vi q), (4, vi a), (5, vi d)]) dX12_bound_179 11 rfl rfl rfl ?_
                refine r_goto C 51 dX12_bound_182 rfl ?_
                refine r_lv (lv' := [(0, .ref hM), (1, vi x), (2, vi y), (3, vi q), (4, vi a), (5, vi d), (6, vi b), (7, vi (k + 1))]) [6, 7, 8, 9, 10, 11, 1, 0] rfl ?_
                exact ih_51 (k + 1, b) (show (0 ≤ (k + 1) ∧ (k + 1) ≤ q * q) ∧ (0 ≤ b ∧ b ≤ 2147483647) ∧ (BDP (fun p9 q9 => farS N (N 142) (N 143) p9 q9) wi hi x y q (LXM N sc qu fp d) (LYM N sc qu fp d) b (k + 1)) from ⟨(by omega), (by omega), (by first | exact BDP_skip (by omega) jB | exact BDP_old (fr := (fun p9 q9 => farS N (N 142) (N 143) p9 q9)) (by show b ≤ farS N (N 142) (N 143) _ _; omega) (by show farS N (N 142) (N 143) _ _ ≤ 99; omega) jB)⟩) (show q * q - (k + 1) < q * q - k from by omega)
              · skip
                refine r_aload_n C dX12_bound_160 4 rfl ?_
                refine gf_X12_35 C dX12_bound_161 0 rfl rfl ?_
                refine r_iload C dX12_bound_164 1 rfl ?_
                refine r_iload C dX12_bound_166 0 rfl ?_
                refine k_Si C ks_X12_50 (fun sz => c_X12_at l g ((x + (k % q)) + (LXM N sc qu fp d)) ((y + (k / q)) + (LYM N sc qu fp d)) sz) dX12_bound_168 rfl rfl rfl ⟨rfl, rfl⟩ [] rfl rfl (fun _ => rfl) (ws' := fun u_ => [(hM, oB 11 [vi wi, vi hi, .ref mN, .ref mC, vi cm, vi ca, .ref mL, vi sc, vi qu, vi fp, .ref mT, vi lm, vi nw, vi nh, vi nr, .ref mF, .ref mR, .ref mD, .ref mA, vi ii, vi wo, vi wd, vi oe, .ref mK, vi rm, .ref mH, vi cn]), (mN, aI g 145 N), (mA, aI g 121 A2_22)]) (fun _ => rfl) (fun r_168 u_ p_168 => ?_)
                have p_168 : r_168 = 11 * ((y + (k / q)) + (LYM N sc qu fp d)) + ((x + (k % q)) + (LXM N sc qu fp d)) := p_168
                refine r_eq (y := (11 * (y + k / q + LYM N sc qu fp d) + (x + k % q + LXM N sc qu fp d))) p_168 ?_
                refine r_iald C dX12_bound_171 2 rfl rfl (by omega) ?_
                refine r_goto C 177 dX12_bound_172 rfl ?_
                refine r_istore C (lv' := [(6, vi (A2_22 (11 * (y + k / q + LYM N sc qu fp d) + (x + k % q + LXM N sc qu fp d)))), (11, vi ((y + (k / q)) + (LYM N sc qu fp d))), (10, vi ((x + (k % q)) + (LXM N sc qu fp d))), (9, vi (y + (k / q))), (8, vi (x + (k % q))), (0, .ref hM), (1, vi x), (2, vi y), (3, vi q), (4, vi a), (5, vi d), (7, vi k)]) dX12_bound_177 rfl rfl ?_
                refine r_iinc C (lv' := [(7, vi (k + 1)), (6, vi (A2_22 (11 * (y + k / q + LYM N sc qu fp d) + (x + k % q + LXM N sc qu fp d)))), (11, vi ((y + (k / q)) + (LYM N sc qu fp d))), (10, vi ((x + (k % q)) + (LXM N sc qu fp d))), (9, vi (y + (k / q))), (8, vi (x + (k % q))), (0, .ref hM), (1, vi x), (2, vi y), (3, vi q), (4, vi a), (5, vi d)]) dX12_bound_179 11 rfl rfl rfl ?_
                refine r_goto C 51 dX12_bound_182 rfl ?_
                refine r_lv (lv' := [(0, .ref hM), (1, vi x), (2, vi y), (3, vi q), (4, vi a), (5, vi d), (6, vi (A2_22 (11 * (y + k / q + LYM N sc qu fp d) + (x + k % q + LXM N sc qu fp d)))), (7, vi (k + 1))]) [6, 7, 8, 9, 10, 11, 1, 0] rfl ?_
                exact ih_51 (k + 1, A2_22 (11 * (y + k / q + LYM N sc qu fp d) + (x + k % q + LXM N sc qu fp d))) (show (0 ≤ (k + 1) ∧ (k + 1) ≤ q * q) ∧ (0 ≤ (A2_22 (11 * (y + k / q + LYM N sc qu fp d) + (x + k % q + LXM N sc qu fp d))) ∧ (A2_22 (11 * (y + k / q + LYM N sc qu fp d) + (x + k % q + LXM N sc qu fp d))) ≤ 2147483647) ∧ (BDP (fun p9 q9 => farS N (N 142) (N 143) p9 q9) wi hi x y q (LXM N sc qu fp d) (LYM N sc qu fp d) (A2_22 (11 * (y + k / q + LYM N sc qu fp d) + (x + k % q + LXM N sc qu fp d))) (k + 1)) from ⟨(by omega), (by omega), (by rw [hfe]; exact BDP_new (fr := (fun p9 q9 => farS N (N 142) (N 143) p9 q9)) jk.1 (by omega) (by omega) (by omega) (by show farS N (N 142) (N 143) _ _ < b; omega) jB)⟩) (show q * q - (k + 1) < q * q - k from by omega)
    · skip
      refine r_iconst C dX12_bound_19 ?_
      exact e_i C Fa dX12_bound_20 (show (∀ k : Int, 0 ≤ k → k < 121 → -2147483648 ≤ Fa k ∧ Fa k ≤ 2147483647) ∧ (((-1) = -1 ∧ ¬ ((0 ≤ x ∧ x < wi ∧ 0 ≤ y ∧ y < hi) ∧ 1 ≤ q ∧ q ≤ 11)) ∨ (((0 ≤ x ∧ x < wi ∧ 0 ≤ y ∧ y < hi) ∧ 1 ≤ q ∧ q ≤ 11) ∧ BND (fun p9 q9 => farS N (N 142) (N 143) p9 q9) wi hi x y q (LXM N sc qu fp) (LYM N sc qu fp) (N 141) (-1))) from ⟨kFa, Or.inl ⟨rfl, by omega⟩⟩) rfl
set_option maxHeartbeats 1000000 in
set_option maxRecDepth 100000 in
theorem c_X12_isTold (l : Launch) (g : Gx) (hM : Nat) (wi : Int) (hi : Int) (mN : Nat) (mC : Nat) (cm : Int) (ca : Int) (mL : Nat) (sc : Int) (qu : Int) (fp : Int) (mT : Nat) (lm : Int) (nw : Int) (nh : Int) (nr : Int) (mF : Nat) (mR : Nat) (mD : Nat) (mA : Nat) (ii : Int) (wo : Int) (wd : Int) (oe : Int) (mK : Nat) (rm : Int) (mH : Nat) (cn : Int) (N : Int → Int) (k : Int) (x : Int) (y : Int) (s : Int) (t : Int) (q : Int) (z : Int) (hN : MOK wi hi N) (kk : 0 ≤ k ∧ k < 121) (kxy : 0 ≤ x ∧ x ≤ 10 ∧ 0 ≤ y ∧ y ≤ 10) (ks : s = 2 ∨ s = 3 ∨ s = 4) (kt : 0 ≤ t ∧ t ≤ 3) (kf : q = 0 ∨ q = 1) (kz : 0 ≤ z ∧ z ≤ 1000) (sz : Nat) : Met l yX12_isTold (.code yX12_isTold cX12_isTold 10 (some .boolean) :: wsL_law) { frames := 2, cells := 0, slots := 0, locals := 47 } (PR g [.ref hM, vi k, vi x, vi y, vi s, vi t, vi q, vi z] [(hM, oB 11 [vi wi, vi hi, .ref mN, .ref mC, vi cm, vi ca, .ref mL, vi sc, vi qu, vi fp, .ref mT, vi lm, vi nw, vi nh, vi nr, .ref mF, .ref mR, .ref mD, .ref mA, vi ii, vi wo, vi wd, vi oe, .ref mK, vi rm, .ref mH, vi cn]), (mN, aI g 145 N)] sz) (PI (S := Unit) g (fun r u_ => r = (tdF N (N 142) (LXM N s t q) (LYM N s t q) (N 141) x y z) k) (fun u_ => [(hM, oB 11 [vi wi, vi hi, .ref mN, .ref mC, vi cm, vi ca, .ref mL, vi sc, vi qu, vi fp, .ref mT, vi lm, vi nw, vi nh, vi nr, .ref mF, .ref mR, .ref mD, .ref mA, vi ii, vi wo, vi wd, vi oe, .ref mK, vi rm, .ref mH, vi cn]), (mN, aI g 145 N)]) [(hM, oB 11 [vi wi, vi hi, .ref mN, .ref mC, vi cm, vi ca, .ref mL, vi sc, vi qu, vi fp, .ref mT, vi lm, vi nw, vi nh, vi nr, .ref mF, .ref mR, .ref mD, .ref mA, vi ii, vi wo, vi wd, vi oe, .ref mK, vi rm, .ref mH, vi cn]), (mN, aI g 145 N)] sz) 0 0 (va_A [(hM, oB 11 [vi wi, vi hi, .ref mN, .ref mC, vi cm, vi ca, .ref mL, vi sc, vi qu, vi fp, .ref mT, vi lm, vi nw, vi nh, vi nr, .ref mF, .ref mR, .ref mD, .ref mA, vi ii, vi wo, vi wd, vi oe, .ref mK, vi rm, .ref mH, vi cn]), (mN, aI g 145 N)] sz) := by
  refine meet (own := RX12) rfl (plainFor_of_name (by decide +kernel)) rfl (fun p_ e_ s_ m_ args_ below_ meth_ c_ C hnm => ?_)
  refine r_at (ws' := [(hM, oB 11 [vi wi, vi hi, .ref mN, .ref mC, vi cm, vi ca, .ref mL, vi sc, vi qu, vi fp, .ref mT, vi lm, vi nw, vi nh, vi nr, .ref mF, .ref mR, .ref mD, .ref mA, vi ii, vi wo, vi wd, vi oe, .ref mK, vi rm, .ref mH, vi cn]), (mN, aI g 145 N)]) (lv' := [(0, .ref hM), (1, vi k), (2, vi x), (3, vi y), (4, vi s), (5, vi t), (6, vi q), (7, vi z)]) rfl rfl ?_
  obtain ⟨nW, nH, n1, nO, nn, nX, nY, nM, nC, nT⟩ := id hN
  have e01 := n1 k kk.1 kk.2
  refine r_iconst C dX12_isTold_0 ?_
  refine r_istore C (lv' := [(8, vi 0), (0, .ref hM), (1, vi k), (2, vi x), (3, vi y), (4, vi s), (5, vi t), (6, vi q), (7, vi z)]) dX12_isTold_1 rfl rfl ?_
  refine r_iconst C dX12_isTold_3 ?_
  refine r_istore C (lv' := [(9, vi 0), (8, vi 0), (0, .ref hM), (1, vi k), (2, vi x), (3, vi y), (4, vi s), (5, vi t), (6, vi q), (7, vi z)]) dX12_isTold_4 rfl rfl ?_
  refine r_lv (lv' := [(0, .ref hM), (1, vi k), (2, vi x), (3, vi y), (4, vi s), (5, vi t), (6, vi q), (7, vi z), (8, vi 0), (9, vi 0)]) [2, 3, 4, 5, 6, 7, 8, 9, 1, 0] rfl ?_
  refine r_loop (σ := Int × Int) (fun z_ => (0 ≤ z_.1 ∧ z_.1 ≤ N 141) ∧ (z_.2 = 0 ∨ z_.2 = 1) ∧ (N k = 1 → z_.2 = nrI (N 142) (LXM N s t q) (LYM N s t q) z_.1 (k % 11 - x) (k / 11 - y) z) ∧ (¬ N k = 1 → z_.1 = 0 ∧ z_.2 = 0)) (fun z_ => N 141 - z_.1) (fun z_ => [(hM, oB 11 [vi wi, vi hi, .ref mN, .ref mC, vi cm, vi ca, .ref mL, vi sc, vi qu, vi fp, .ref mT, vi lm, vi nw, vi nh, vi nr, .ref mF, .ref mR, .ref mD, .ref mA, vi ii, vi wo, vi wd, vi oe, .ref mK, vi rm, .ref mH, vi cn]), (mN, aI g 145 N)]) (fun z_ => [(0, .ref hM), (1, vi k), (2, vi x), (3, vi y), (4, vi s), (5, vi t), (6, vi q), (7, vi z), (8, vi z_.2), (9, vi z_.1)]) (fun z_ hz => ?_) (fun z_ hz ih_6 => ?_) (((0, 0) : Int × Int)) ?_
  · obtain ⟨d, a⟩ := z_
    obtain ⟨jd, j01, ja, jz⟩ := hz
    have jd : 0 ≤ d ∧ d ≤ N 141 := jd
    have j01 : a = 0 ∨ a = 1 := j01
    have ja : N k = 1 → a = nrI (N 142) (LXM N s t q) (LYM N s t q) d (k % 11 - x) (k / 11 - y) z := ja
    have jz : ¬ N k = 1 → d = 0 ∧ a = 0 := jz
    show (0 : Int) ≤ N 141 - d
    omega
  rotate_left
  · show (0 ≤ 0 ∧ 0 ≤ N 141) ∧ (0 = 0 ∨ 0 = 1) ∧ (N k = 1 → 0 = nrI (N 142) (LXM N s t q) (LYM N s t q) 0 (k % 11 - x) (k / 11 - y) z) ∧ (¬ N k = 1 → 0 = 0 ∧ 0 = 0)
    exact ⟨(by omega), (Or.inl rfl), (fun _ => rfl), (fun _ => ⟨rfl, rfl⟩)⟩
  obtain ⟨d, a⟩ := z_
  obtain ⟨jd, j01, ja, jz⟩ := hz
  have jd : 0 ≤ d ∧ d ≤ N 141 := jd
  have j01 : a = 0 ∨ a = 1 := j01
  have ja : N k = 1 → a = nrI (N 142) (LXM N s t q) (LYM N s t q) d (k % 11 - x) (k / 11 - y) z := ja
  have jz : ¬ N k = 1 → d = 0 ∧ a = 0 := jz
  refine r_at (ws' := [(hM, oB 11 [vi wi, vi hi, .ref mN, .ref mC, vi cm, vi ca, .ref mL, vi sc, vi qu, vi fp, .ref mT, vi lm, vi nw, vi nh, vi nr, .ref mF, .ref mR, .ref mD, .ref mA, vi ii, vi wo, vi wd, vi oe, .ref mK, vi rm, .ref mH, vi cn]), (mN, aI g 145 N)]) (lv' := [(0, .ref hM), (1, vi k), (2, vi x), (3, vi y), (4, vi s), (5, vi t), (6, vi q), (7, vi z), (8, vi a), (9, vi d)]) rfl rfl ?_
  refine r_iload C dX12_isTold_6 9 rfl ?_
  refine r_aload_n C dX12_isTold_8 0 rfl ?_
  refine gf_X12_7 C dX12_isTold_9 0 rfl rfl ?_
  refine r_sipush C dX12_isTold_12 rfl ?_
  refine r_iald C dX12_isTold_15 1 rfl rfl (by omega) ?_
  refine r_icmp_ge C 92 dX12_isTold_16 rfl (by omega) (fun c_1 => ?_) (fun c_1 => ?_)
  · skip
    refine r_iload C dX12_isTold_92 8 rfl ?_
    exact e_z C () dX12_isTold_94 (by omega) (show a = (tdF N (N 142) (LXM N s t q) (LYM N s t q) (N 141) x y z) k from by
      unfold tdF
      by_cases e : N k = 1
      · rw [if_pos e, ja e, show d = N 141 by omega]
      · rw [if_neg e]; exact (jz e).2) rfl
  · skip
    refine r_aload_n C dX12_isTold_19 0 rfl ?_
    refine gf_X12_7 C dX12_isTold_20 0 rfl rfl ?_
    refine r_iload_n C dX12_isTold_23 1 rfl ?_
    refine r_iald C dX12_isTold_24 1 rfl rfl (by omega) ?_
    refine r_iconst C dX12_isTold_25 ?_
    refine r_icmp_ne C 92 dX12_isTold_26 rfl (by omega) (fun c_2 => ?_) (fun c_2 => ?_)
    · skip
      refine r_iload C dX12_isTold_92 8 rfl ?_
      exact e_z C () dX12_isTold_94 (by omega) (show a = (tdF N (N 142) (LXM N s t q) (LYM N s t q) (N 141) x y z) k from by
      unfold tdF
      by_cases e : N k = 1
      · rw [if_pos e, ja e, show d = N 141 by omega]
      · rw [if_neg e]; exact (jz e).2) rfl
    · skip
      refine r_iload C dX12_isTold_29 8 rfl ?_
      refine r_if_ne C 79 dX12_isTold_31 rfl (by omega) (fun c_3 => ?_) (fun c_3 => ?_)
      · skip
        refine r_iconst C dX12_isTold_79 ?_
        refine r_goto C 84 dX12_isTold_80 rfl ?_
        refine r_istore C (lv' := [(8, vi 1), (0, .ref hM), (1, vi k), (2, vi x), (3, vi y), (4, vi s), (5, vi t), (6, vi q), (7, vi z), (9, vi d)]) dX12_isTold_84 rfl rfl ?_
        refine r_iinc C (lv' := [(9, vi (d + 1)), (8, vi 1), (0, .ref hM), (1, vi k), (2, vi x), (3, vi y), (4, vi s), (5, vi t), (6, vi q), (7, vi z)]) dX12_isTold_86 9 rfl rfl rfl ?_
        refine r_goto C 6 dX12_isTold_89 rfl ?_
        refine r_lv (lv' := [(0, .ref hM), (1, vi k), (2, vi x), (3, vi y), (4, vi s), (5, vi t), (6, vi q), (7, vi z), (8, vi 1), (9, vi (d + 1))]) [2, 3, 4, 5, 6, 7, 8, 9, 1, 0] rfl ?_
        exact ih_6 (d + 1, 1) (show (0 ≤ (d + 1) ∧ (d + 1) ≤ N 141) ∧ (1 = 0 ∨ 1 = 1) ∧ (N k = 1 → 1 = nrI (N 142) (LXM N s t q) (LYM N s t q) (d + 1) (k % 11 - x) (k / 11 - y) z) ∧ (¬ N k = 1 → (d + 1) = 0 ∧ 1 = 0) from ⟨(by omega), (by omega), (fun hk => by rw [nrI_s _ _ _ jd.1, ← ja hk]; omega), (fun e => by omega)⟩) (show N 141 - (d + 1) < N 141 - d from by omega)
      · skip
        refine r_aload_n C dX12_isTold_34 0 rfl ?_
        refine r_iload_n C dX12_isTold_35 1 rfl ?_
        refine r_bipush C dX12_isTold_36 rfl ?_
        refine r_irem C dX12_isTold_38 (by omega) ?_
        refine r_iload_n C dX12_isTold_39 1 rfl ?_
        refine r_bipush C dX12_isTold_40 rfl ?_
        refine r_idiv C dX12_isTold_42 (by omega) ?_
        refine r_iload_n C dX12_isTold_43 2 rfl ?_
        refine r_aload_n C dX12_isTold_44 0 rfl ?_
        refine r_iload C dX12_isTold_45 9 rfl ?_
        refine r_iload C dX12_isTold_47 4 rfl ?_
        refine r_iload C dX12_isTold_49 5 rfl ?_
        refine r_iload C dX12_isTold_51 6 rfl ?_
        refine k_Vi C kv_X12_143 (fun sz => c_X12_liesX l g hM wi hi mN mC cm ca mL sc qu fp mT lm nw nh nr mF mR mD mA ii wo wd oe mK rm mH cn N d s t q (by omega) nX nY ks kt kf sz) dX12_isTold_53 rfl rfl rfl ⟨rfl, rfl⟩ 0 11 rfl rfl rfl [0, 1] rfl rfl (fun _ => rfl) (ws' := fun u_ => [(hM, oB 11 [vi wi, vi hi, .ref mN, .ref mC, vi cm, vi ca, .ref mL, vi sc, vi qu, vi fp, .ref mT, vi lm, vi nw, vi nh, vi nr, .ref mF, .ref mR, .ref mD, .ref mA, vi ii, vi wo, vi wd, vi oe, .ref mK, vi rm, .ref mH, vi cn]), (mN, aI g 145 N)]) (fun _ => rfl) (fun r_53 u_ p_53 => ?_)
        have p_53 : r_53 = lX s t q (N (121 + d)) (N (131 + d)) := p_53
        refine r_eq (y := (LXM N s t q d)) p_53 ?_
        refine r_iadd C dX12_isTold_56 ?_
        refine r_iload_n C dX12_isTold_57 3 rfl ?_
        refine r_aload_n C dX12_isTold_58 0 rfl ?_
        refine r_iload C dX12_isTold_59 9 rfl ?_
        refine r_iload C dX12_isTold_61 4 rfl ?_
        refine r_iload C dX12_isTold_63 5 rfl ?_
        refine r_iload C dX12_isTold_65 6 rfl ?_
        refine k_Vi C kv_X12_146 (fun sz => c_X12_liesY l g hM wi hi mN mC cm ca mL sc qu fp mT lm nw nh nr mF mR mD mA ii wo wd oe mK rm mH cn N d s t q (by omega) nX nY ks kt kf sz) dX12_isTold_67 rfl rfl rfl ⟨rfl, rfl⟩ 0 11 rfl rfl rfl [0, 1] rfl rfl (fun _ => rfl) (ws' := fun u_ => [(hM, oB 11 [vi wi, vi hi, .ref mN, .ref mC, vi cm, vi ca, .ref mL, vi sc, vi qu, vi fp, .ref mT, vi lm, vi nw, vi nh, vi nr, .ref mF, .ref mR, .ref mD, .ref mA, vi ii, vi wo, vi wd, vi oe, .ref mK, vi rm, .ref mH, vi cn]), (mN, aI g 145 N)]) (fun _ => rfl) (fun r_67 u_ p_67 => ?_)
        have p_67 : r_67 = lY s t q (N (121 + d)) (N (131 + d)) := p_67
        refine r_eq (y := (LYM N s t q d)) p_67 ?_
        have hbX : -30 ≤ LXM N s t q d ∧ LXM N s t q d ≤ 30 := lX_bd (nX d (by omega) (by omega)) (nY d (by omega) (by omega)) ks
        have hbY : -30 ≤ LYM N s t q d ∧ LYM N s t q d ≤ 30 := lY_bd (nX d (by omega) (by omega)) (nY d (by omega) (by omega)) ks
        refine r_iadd C dX12_isTold_70 ?_
        refine k_Vi C kv_X12_130 (fun sz => c_X12_apart l g hM wi hi mN mC cm ca mL sc qu fp mT lm nw nh nr mF mR mD mA ii wo wd oe mK rm mH cn N (k % 11) (k / 11) (x + (LXM N s t q d)) (y + (LYM N s t q d)) nM (by omega) sz) dX12_isTold_71 rfl rfl rfl ⟨rfl, rfl⟩ 0 11 rfl rfl rfl [0, 1] rfl rfl (fun _ => rfl) (ws' := fun u_ => [(hM, oB 11 [vi wi, vi hi, .ref mN, .ref mC, vi cm, vi ca, .ref mL, vi sc, vi qu, vi fp, .ref mT, vi lm, vi nw, vi nh, vi nr, .ref mF, .ref mR, .ref mD, .ref mA, vi ii, vi wo, vi wd, vi oe, .ref mK, vi rm, .ref mH, vi cn]), (mN, aI g 145 N)]) (fun _ => rfl) (fun r_71 u_ p_71 => ?_)
        have p_71 : r_71 = dst (N 142) ((k % 11) - (x + (LXM N s t q d))) ((k / 11) - (y + (LYM N s t q d))) := p_71
        refine r_eq (y := (dst (N 142) (k % 11 - x - LXM N s t q d) (k / 11 - y - LYM N s t q d))) (by rw [p_71]; congr 1 <;> omega) ?_
        have hd1 := dst_nn (N 142) (k % 11 - x - LXM N s t q d) (k / 11 - y - LYM N s t q d)
        have hd2 := dst_ub (m := N 142) (dx := k % 11 - x - LXM N s t q d) (dy := k / 11 - y - LYM N s t q d) (by omega) (by omega) nM
        refine r_iload C dX12_isTold_74 7 rfl ?_
        refine r_icmp_gt C 83 dX12_isTold_76 rfl (by omega) (fun c_4 => ?_) (fun c_4 => ?_)
        · skip
          refine r_iconst C dX12_isTold_83 ?_
          refine r_istore C (lv' := [(8, vi 0), (0, .ref hM), (1, vi k), (2, vi x), (3, vi y), (4, vi s), (5, vi t), (6, vi q), (7, vi z), (9, vi d)]) dX12_isTold_84 rfl rfl ?_
          refine r_iinc C (lv' := [(9, vi (d + 1)), (8, vi 0), (0, .ref hM), (1, vi k), (2, vi x), (3, vi y), (4, vi s), (5, vi t), (6, vi q), (7, vi z)]) dX12_isTold_86 9 rfl rfl rfl ?_
          refine r_goto C 6 dX12_isTold_89 rfl ?_
          refine r_lv (lv' := [(0, .ref hM), (1, vi k), (2, vi x), (3, vi y), (4, vi s), (5, vi t), (6, vi q), (7, vi z), (8, vi 0), (9, vi (d + 1))]) [2, 3, 4, 5, 6, 7, 8, 9, 1, 0] rfl ?_
          exact ih_6 (d + 1, 0) (show (0 ≤ (d + 1) ∧ (d + 1) ≤ N 141) ∧ (0 = 0 ∨ 0 = 1) ∧ (N k = 1 → 0 = nrI (N 142) (LXM N s t q) (LYM N s t q) (d + 1) (k % 11 - x) (k / 11 - y) z) ∧ (¬ N k = 1 → (d + 1) = 0 ∧ 0 = 0) from ⟨(by omega), (by omega), (fun hk => by rw [nrI_s _ _ _ jd.1, ← ja hk]; omega), (fun e => by omega)⟩) (show N 141 - (d + 1) < N 141 - d from by omega)
        · skip
          refine r_iconst C dX12_isTold_79 ?_
          refine r_goto C 84 dX12_isTold_80 rfl ?_
          refine r_istore C (lv' := [(8, vi 1), (0, .ref hM), (1, vi k), (2, vi x), (3, vi y), (4, vi s), (5, vi t), (6, vi q), (7, vi z), (9, vi d)]) dX12_isTold_84 rfl rfl ?_
          refine r_iinc C (lv' := [(9, vi (d + 1)), (8, vi 1), (0, .ref hM), (1, vi k), (2, vi x), (3, vi y), (4, vi s), (5, vi t), (6, vi q), (7, vi z)]) dX12_isTold_86 9 rfl rfl rfl ?_
          refine r_goto C 6 dX12_isTold_89 rfl ?_
          refine r_lv (lv' := [(0, .ref hM), (1, vi k), (2, vi x), (3, vi y), (4, vi s), (5, vi t), (6, vi q), (7, vi z), (8, vi 1), (9, vi (d + 1))]) [2, 3, 4, 5, 6, 7, 8, 9, 1, 0] rfl ?_
          exact ih_6 (d + 1, 1) (show (0 ≤ (d + 1) ∧ (d + 1) ≤ N 141) ∧ (1 = 0 ∨ 1 = 1) ∧ (N k = 1 → 1 = nrI (N 142) (LXM N s t q) (LYM N s t q) (d + 1) (k % 11 - x) (k / 11 - y) z) ∧ (¬ N k = 1 → (d + 1) = 0 ∧ 1 = 0) from ⟨(by omega), (by omega), (fun hk => by rw [nrI_s _ _ _ jd.1, ← ja hk]; omega), (fun e => by omega)⟩) (show N 141 - (d + 1) < N 141 - d from by omega)
set_option maxHeartbeats 1000000 in
set_option maxRecDepth 100000 in
theorem c_X12_toldMany (l : Launch) (g : Gx) (hM : Nat) (wi : Int) (hi : Int) (mN : Nat) (mC : Nat) (cm : Int) (ca : Int) (mL : Nat) (sc : Int) (qu : Int) (fp : Int) (mT : Nat) (lm : Int) (nw : Int) (nh : Int) (nr : Int) (mF : Nat) (mR : Nat) (mD : Nat) (mA : Nat) (ii : Int) (wo : Int) (wd : Int) (oe : Int) (mK : Nat) (rm : Int) (mH : Nat) (cn : Int) (N : Int → Int) (x : Int) (y : Int) (s : Int) (t : Int) (q : Int) (z : Int) (hN : MOK wi hi N) (kxy : 0 ≤ x ∧ x ≤ 10 ∧ 0 ≤ y ∧ y ≤ 10) (ks : s = 2 ∨ s = 3 ∨ s = 4) (kt : 0 ≤ t ∧ t ≤ 3) (kf : q = 0 ∨ q = 1) (kz : 0 ≤ z ∧ z ≤ 1000) (sz : Nat) : Met l yX12_toldMany (.code yX12_toldMany cX12_toldMany 9 (some .int) :: wsL_law) { frames := 3, cells := 0, slots := 0, locals := 76 } (PR g [.ref hM, vi x, vi y, vi s, vi t, vi q, vi z] [(hM, oB 11 [vi wi, vi hi, .ref mN, .ref mC, vi cm, vi ca, .ref mL, vi sc, vi qu, vi fp, .ref mT, vi lm, vi nw, vi nh, vi nr, .ref mF, .ref mR, .ref mD, .ref mA, vi ii, vi wo, vi wd, vi oe, .ref mK, vi rm, .ref mH, vi cn]), (mN, aI g 145 N)] sz) (PI (S := Unit) g (fun r u_ => r = sI (tdF N (N 142) (LXM N s t q) (LYM N s t q) (N 141) x y z) 121) (fun u_ => [(hM, oB 11 [vi wi, vi hi, .ref mN, .ref mC, vi cm, vi ca, .ref mL, vi sc, vi qu, vi fp, .ref mT, vi lm, vi nw, vi nh, vi nr, .ref mF, .ref mR, .ref mD, .ref mA, vi ii, vi wo, vi wd, vi oe, .ref mK, vi rm, .ref mH, vi cn]), (mN, aI g 145 N)]) [(hM, oB 11 [vi wi, vi hi, .ref mN, .ref mC, vi cm, vi ca, .ref mL, vi sc, vi qu, vi fp, .ref mT, vi lm, vi nw, vi nh, vi nr, .ref mF, .ref mR, .ref mD, .ref mA, vi ii, vi wo, vi wd, vi oe, .ref mK, vi rm, .ref mH, vi cn]), (mN, aI g 145 N)] sz) 0 0 (va_A [(hM, oB 11 [vi wi, vi hi, .ref mN, .ref mC, vi cm, vi ca, .ref mL, vi sc, vi qu, vi fp, .ref mT, vi lm, vi nw, vi nh, vi nr, .ref mF, .ref mR, .ref mD, .ref mA, vi ii, vi wo, vi wd, vi oe, .ref mK, vi rm, .ref mH, vi cn]), (mN, aI g 145 N)] sz) := by
  refine meet (own := RX12) rfl (plainFor_of_name (by decide +kernel)) rfl (fun p_ e_ s_ m_ args_ below_ meth_ c_ C hnm => ?_)
  refine r_at (ws' := [(hM, oB 11 [vi wi, vi hi, .ref mN, .ref mC, vi cm, vi ca, .ref mL, vi sc, vi qu, vi fp, .ref mT, vi lm, vi nw, vi nh, vi nr, .ref mF, .ref mR, .ref mD, .ref mA, vi ii, vi wo, vi wd, vi oe, .ref mK, vi rm, .ref mH, vi cn]), (mN, aI g 145 N)]) (lv' := [(0, .ref hM), (1, vi x), (2, vi y), (3, vi s), (4, vi t), (5, vi q), (6, vi z)]) rfl rfl ?_
  refine r_iconst C dX12_toldMany_0 ?_
  refine r_istore C (lv' := [(7, vi 0), (0, .ref hM), (1, vi x), (2, vi y), (3, vi s), (4, vi t), (5, vi q), (6, vi z)]) dX12_toldMany_1 rfl rfl ?_
  refine r_iconst C dX12_toldMany_3 ?_
  refine r_istore C (lv' := [(8, vi 0), (7, vi 0), (0, .ref hM), (1, vi x), (2, vi y), (3, vi s), (4, vi t), (5, vi q), (6, vi z)]) dX12_toldMany_4 rfl rfl ?_
  refine r_lv (lv' := [(0, .ref hM), (1, vi x), (2, vi y), (3, vi s), (4, vi t), (5, vi q), (6, vi z), (7, vi 0), (8, vi 0)]) [2, 3, 4, 5, 6, 7, 8, 1, 0] rfl ?_
  refine r_loop (σ := Int × Int) (fun z_ => (0 ≤ z_.1 ∧ z_.1 ≤ 121) ∧ (z_.2 = sI (tdF N (N 142) (LXM N s t q) (LYM N s t q) (N 141) x y z) z_.1)) (fun z_ => 121 - z_.1) (fun z_ => [(hM, oB 11 [vi wi, vi hi, .ref mN, .ref mC, vi cm, vi ca, .ref mL, vi sc, vi qu, vi fp, .ref mT, vi lm, vi nw, vi nh, vi nr, .ref mF, .ref mR, .ref mD, .ref mA, vi ii, vi wo, vi wd, vi oe, .ref mK, vi rm, .ref mH, vi cn]), (mN, aI g 145 N)]) (fun z_ => [(0, .ref hM), (1, vi x), (2, vi y), (3, vi s), (4, vi t), (5, vi q), (6, vi z), (7, vi z_.2), (8, vi z_.1)]) (fun z_ hz => ?_) (fun z_ hz ih_6 => ?_) (((0, 0) : Int × Int)) ?_
  · obtain ⟨k, a⟩ := z_
    obtain ⟨jk, ja⟩ := hz
    have jk : 0 ≤ k ∧ k ≤ 121 := jk
    have ja : a = sI (tdF N (N 142) (LXM N s t q) (LYM N s t q) (N 141) x y z) k := ja
    show (0 : Int) ≤ 121 - k
    omega
  rotate_left
  · show (0 ≤ 0 ∧ 0 ≤ 121) ∧ (0 = sI (tdF N (N 142) (LXM N s t q) (LYM N s t q) (N 141) x y z) 0)
    exact ⟨(by decide), (rfl)⟩
  obtain ⟨k, a⟩ := z_
  obtain ⟨jk, ja⟩ := hz
  have jk : 0 ≤ k ∧ k ≤ 121 := jk
  have ja : a = sI (tdF N (N 142) (LXM N s t q) (LYM N s t q) (N 141) x y z) k := ja
  refine r_at (ws' := [(hM, oB 11 [vi wi, vi hi, .ref mN, .ref mC, vi cm, vi ca, .ref mL, vi sc, vi qu, vi fp, .ref mT, vi lm, vi nw, vi nh, vi nr, .ref mF, .ref mR, .ref mD, .ref mA, vi ii, vi wo, vi wd, vi oe, .ref mK, vi rm, .ref mH, vi cn]), (mN, aI g 145 N)]) (lv' := [(0, .ref hM), (1, vi x), (2, vi y), (3, vi s), (4, vi t), (5, vi q), (6, vi z), (7, vi a), (8, vi k)]) rfl rfl ?_
  refine r_iload C dX12_toldMany_6 8 rfl ?_
  refine r_bipush C dX12_toldMany_8 rfl ?_
  refine r_icmp_ge C 47 dX12_toldMany_10 rfl (by omega) (fun c_1 => ?_) (fun c_1 => ?_)
  · skip
    refine r_iload C dX12_toldMany_47 7 rfl ?_
    exact e_i C () dX12_toldMany_49 (show a = sI (tdF N (N 142) (LXM N s t q) (LYM N s t q) (N 141) x y z) 121 from by rw [ja, show k = 121 by omega]) rfl
  · skip
    refine r_iload C dX12_toldMany_13 7 rfl ?_
    refine r_aload_n C dX12_toldMany_15 0 rfl ?_
    refine r_iload C dX12_toldMany_16 8 rfl ?_
    refine r_iload_n C dX12_toldMany_18 1 rfl ?_
    refine r_iload_n C dX12_toldMany_19 2 rfl ?_
    refine r_iload_n C dX12_toldMany_20 3 rfl ?_
    refine r_iload C dX12_toldMany_21 4 rfl ?_
    refine r_iload C dX12_toldMany_23 5 rfl ?_
    refine r_iload C dX12_toldMany_25 6 rfl ?_
    refine k_Vi C kv_X12_169 (fun sz => c_X12_isTold l g hM wi hi mN mC cm ca mL sc qu fp mT lm nw nh nr mF mR mD mA ii wo wd oe mK rm mH cn N k x y s t q z hN (by omega) kxy ks kt kf kz sz) dX12_toldMany_27 rfl rfl rfl ⟨rfl, rfl⟩ 0 11 rfl rfl rfl [0, 1] rfl rfl (fun _ => rfl) (ws' := fun u_ => [(hM, oB 11 [vi wi, vi hi, .ref mN, .ref mC, vi cm, vi ca, .ref mL, vi sc, vi qu, vi fp, .ref mT, vi lm, vi nw, vi nh, vi nr, .ref mF, .ref mR, .ref mD, .ref mA, vi ii, vi wo, vi wd, vi oe, .ref mK, vi rm, .ref mH, vi cn]), (mN, aI g 145 N)]) (fun _ => rfl) (fun r_27 u_ p_27 => ?_)
    have p_27 : r_27 = (tdF N (N 142) (LXM N s t q) (LYM N s t q) (N 141) x y z) k := p_27
    have h01 : r_27 = 0 ∨ r_27 = 1 := by rw [p_27]; exact tdF_01 _ _ _ _ _ _ _ _ _
    refine r_if_eq C 37 dX12_toldMany_30 rfl (by omega) (fun c_2 => ?_) (fun c_2 => ?_)
    · skip
      refine r_iconst C dX12_toldMany_37 ?_
      refine r_iadd C dX12_toldMany_38 ?_
      refine r_istore C (lv' := [(7, vi (a + 0)), (0, .ref hM), (1, vi x), (2, vi y), (3, vi s), (4, vi t), (5, vi q), (6, vi z), (8, vi k)]) dX12_toldMany_39 rfl rfl ?_
      refine r_iinc C (lv' := [(8, vi (k + 1)), (7, vi (a + 0)), (0, .ref hM), (1, vi x), (2, vi y), (3, vi s), (4, vi t), (5, vi q), (6, vi z)]) dX12_toldMany_41 8 rfl rfl rfl ?_
      refine r_goto C 6 dX12_toldMany_44 rfl ?_
      refine r_lv (lv' := [(0, .ref hM), (1, vi x), (2, vi y), (3, vi s), (4, vi t), (5, vi q), (6, vi z), (7, vi (a + 0)), (8, vi (k + 1))]) [2, 3, 4, 5, 6, 7, 8, 1, 0] rfl ?_
      exact ih_6 (k + 1, a + 0) (show (0 ≤ (k + 1) ∧ (k + 1) ≤ 121) ∧ ((a + 0) = sI (tdF N (N 142) (LXM N s t q) (LYM N s t q) (N 141) x y z) (k + 1)) from ⟨(by omega), (by rw [sI_s _ jk.1, ← ja, ← p_27]; omega)⟩) (show 121 - (k + 1) < 121 - k from by omega)
    · skip
      refine r_iconst C dX12_toldMany_33 ?_
      refine r_goto C 38 dX12_toldMany_34 rfl ?_
      refine r_iadd C dX12_toldMany_38 ?_
      refine r_istore C (lv' := [(7, vi (a + 1)), (0, .ref hM), (1, vi x), (2, vi y), (3, vi s), (4, vi t), (5, vi q), (6, vi z), (8, vi k)]) dX12_toldMany_39 rfl rfl ?_
      refine r_iinc C (lv' := [(8, vi (k + 1)), (7, vi (a + 1)), (0, .ref hM), (1, vi x), (2, vi y), (3, vi s), (4, vi t), (5, vi q), (6, vi z)]) dX12_toldMany_41 8 rfl rfl rfl ?_
      refine r_goto C 6 dX12_toldMany_44 rfl ?_
      refine r_lv (lv' := [(0, .ref hM), (1, vi x), (2, vi y), (3, vi s), (4, vi t), (5, vi q), (6, vi z), (7, vi (a + 1)), (8, vi (k + 1))]) [2, 3, 4, 5, 6, 7, 8, 1, 0] rfl ?_
      exact ih_6 (k + 1, a + 1) (show (0 ≤ (k + 1) ∧ (k + 1) ≤ 121) ∧ ((a + 1) = sI (tdF N (N 142) (LXM N s t q) (LYM N s t q) (N 141) x y z) (k + 1)) from ⟨(by omega), (by rw [sI_s _ jk.1, ← ja, ← p_27]; omega)⟩) (show 121 - (k + 1) < 121 - k from by omega)
set_option maxHeartbeats 1000000 in
set_option maxRecDepth 100000 in
theorem c_X12_tells (l : Launch) (g : Gx) (hM : Nat) (wi : Int) (hi : Int) (mN : Nat) (mC : Nat) (cm : Int) (ca : Int) (mL : Nat) (sc : Int) (qu : Int) (fp : Int) (mT : Nat) (lm : Int) (nw : Int) (nh : Int) (nr : Int) (mF : Nat) (mR : Nat) (mD : Nat) (mA : Nat) (ii : Int) (wo : Int) (wd : Int) (oe : Int) (mK : Nat) (rm : Int) (mH : Nat) (cn : Int) (N : Int → Int) (Fa : Int → Int) (x : Int) (y : Int) (q : Int) (hN : MOK wi hi N) (kFa : ∀ k : Int, 0 ≤ k → k < 121 → -2147483648 ≤ Fa k ∧ Fa k ≤ 2147483647) (hlk : LKO sc qu fp) (bbx : -2147483648 ≤ x ∧ x ≤ 2147483647) (bby : -2147483648 ≤ y ∧ y ≤ 2147483647) (bbq : -2147483648 ≤ q ∧ q ≤ 2147483647) (sz : Nat) : Met l yX12_tells (.code yX12_tells cX12_tells 4 (some .int) :: wsL_law) { frames := 4, cells := 0, slots := 0, locals := 104 } (PR g [.ref hM, vi x, vi y, vi q] [(hM, oB 11 [vi wi, vi hi, .ref mN, .ref mC, vi cm, vi ca, .ref mL, vi sc, vi qu, vi fp, .ref mT, vi lm, vi nw, vi nh, vi nr, .ref mF, .ref mR, .ref mD, .ref mA, vi ii, vi wo, vi wd, vi oe, .ref mK, vi rm, .ref mH, vi cn]), (mN, aI g 145 N), (mA, aI g 121 Fa)] sz) (PI (S := Int × Int × Int × Int × (Int → Int)) g (fun r u_ => (∀ k : Int, 0 ≤ k → k < 121 → -2147483648 ≤ u_.2.2.2.2 k ∧ u_.2.2.2.2 k ≤ 2147483647) ∧ ((r = -1 ∧ ¬ ((0 ≤ x ∧ x < wi ∧ 0 ≤ y ∧ y < hi) ∧ 0 ≤ q ∧ q ≤ 3)) ∨ (r = -4 ∧ ((0 ≤ x ∧ x < wi ∧ 0 ≤ y ∧ y < hi) ∧ 0 ≤ q ∧ q ≤ 3) ∧ ¬ FT (LXM N sc qu fp) (LYM N sc qu fp) (N 141) wi hi x y) ∨ (((0 ≤ x ∧ x < wi ∧ 0 ≤ y ∧ y < hi) ∧ 0 ≤ q ∧ q ≤ 3) ∧ FT (LXM N sc qu fp) (LYM N sc qu fp) (N 141) wi hi x y ∧ r = sI (tdF N (N 142) (LXM N sc qu fp) (LYM N sc qu fp) (N 141) x y q) 121))) (fun u_ => [(hM, oB 11 [vi wi, vi hi, .ref mN, .ref mC, vi cm, vi ca, .ref mL, vi sc, vi qu, vi fp, .ref mT, vi lm, vi nw, vi nh, vi nr, .ref mF, .ref mR, .ref mD, .ref mA, vi u_.1, vi u_.2.1, vi u_.2.2.1, vi u_.2.2.2.1, .ref mK, vi rm, .ref mH, vi cn]), (mN, aI g 145 N), (mA, aI g 121 u_.2.2.2.2)]) [(hM, oB 11 [vi wi, vi hi, .ref mN, .ref mC, vi cm, vi ca, .ref mL, vi sc, vi qu, vi fp, .ref mT, vi lm, vi nw, vi nh, vi nr, .ref mF, .ref mR, .ref mD, .ref mA, vi ii, vi wo, vi wd, vi oe, .ref mK, vi rm, .ref mH, vi cn]), (mN, aI g 145 N), (mA, aI g 121 Fa)] sz) 0 0 (va_A [(hM, oB 11 [vi wi, vi hi, .ref mN, .ref mC, vi cm, vi ca, .ref mL, vi sc, vi qu, vi fp, .ref mT, vi lm, vi nw, vi nh, vi nr, .ref mF, .ref mR, .ref mD, .ref mA, vi ii, vi wo, vi wd, vi oe, .ref mK, vi rm, .ref mH, vi cn]), (mN, aI g 145 N), (mA, aI g 121 Fa)] sz) := by
  refine meet (own := RX12) rfl (plainFor_of_name (by decide +kernel)) rfl (fun p_ e_ s_ m_ args_ below_ meth_ c_ C hnm => ?_)
  refine r_at (ws' := [(hM, oB 11 [vi wi, vi hi, .ref mN, .ref mC, vi cm, vi ca, .ref mL, vi sc, vi qu, vi fp, .ref mT, vi lm, vi nw, vi nh, vi nr, .ref mF, .ref mR, .ref mD, .ref mA, vi ii, vi wo, vi wd, vi oe, .ref mK, vi rm, .ref mH, vi cn]), (mN, aI g 145 N), (mA, aI g 121 Fa)]) (lv' := [(0, .ref hM), (1, vi x), (2, vi y), (3, vi q)]) rfl rfl ?_
  obtain ⟨nW, nH, n1, nO, nn, nX, nY, nM, nC, nT⟩ := id hN
  obtain ⟨k3, kt, kf⟩ := id hlk
  refine r_aload_n C dX12_tells_0 0 rfl ?_
  refine r_iload_n C dX12_tells_1 1 rfl ?_
  refine r_iload_n C dX12_tells_2 2 rfl ?_
  refine k_Vi C kv_X12_120 (fun sz => c_X12_isCell l g hM wi hi mN mC cm ca mL sc qu fp mT lm nw nh nr mF mR mD mA ii wo wd oe mK rm mH cn x y nW nH (by omega) (by omega) sz) dX12_tells_3 rfl rfl rfl ⟨rfl, rfl⟩ 0 11 rfl rfl rfl [0] rfl rfl (fun _ => rfl) (ws' := fun u_ => [(hM, oB 11 [vi wi, vi hi, .ref mN, .ref mC, vi cm, vi ca, .ref mL, vi sc, vi qu, vi fp, .ref mT, vi lm, vi nw, vi nh, vi nr, .ref mF, .ref mR, .ref mD, .ref mA, vi ii, vi wo, vi wd, vi oe, .ref mK, vi rm, .ref mH, vi cn]), (mN, aI g 145 N), (mA, aI g 121 Fa)]) (fun _ => rfl) (fun r_3 u_ p_3 => ?_)
  have p_3 : (r_3 = 1 ∧ 0 ≤ x ∧ x < wi ∧ 0 ≤ y ∧ y < hi) ∨ (r_3 = 0 ∧ ¬ (0 ≤ x ∧ x < wi ∧ 0 ≤ y ∧ y < hi)) := p_3
  refine r_if_eq C 18 dX12_tells_6 rfl (by omega) (fun c_1 => ?_) (fun c_1 => ?_)
  · skip
    refine r_iconst C dX12_tells_18 ?_
    exact e_i C (ii, wo, wd, oe, Fa) dX12_tells_19 (show (∀ k : Int, 0 ≤ k → k < 121 → -2147483648 ≤ Fa k ∧ Fa k ≤ 2147483647) ∧ (((-1) = -1 ∧ ¬ ((0 ≤ x ∧ x < wi ∧ 0 ≤ y ∧ y < hi) ∧ 0 ≤ q ∧ q ≤ 3)) ∨ ((-1) = -4 ∧ ((0 ≤ x ∧ x < wi ∧ 0 ≤ y ∧ y < hi) ∧ 0 ≤ q ∧ q ≤ 3) ∧ ¬ FT (LXM N sc qu fp) (LYM N sc qu fp) (N 141) wi hi x y) ∨ (((0 ≤ x ∧ x < wi ∧ 0 ≤ y ∧ y < hi) ∧ 0 ≤ q ∧ q ≤ 3) ∧ FT (LXM N sc qu fp) (LYM N sc qu fp) (N 141) wi hi x y ∧ (-1) = sI (tdF N (N 142) (LXM N sc qu fp) (LYM N sc qu fp) (N 141) x y q) 121)) from ⟨kFa, Or.inl ⟨rfl, by omega⟩⟩) rfl
  · skip
    refine r_iload_n C dX12_tells_9 3 rfl ?_
    refine r_iconst C dX12_tells_10 ?_
    refine r_iconst C dX12_tells_11 ?_
    refine k_Si C ks_X12_58 (fun sz => c_X12_in l g q 0 3 (by omega) (by omega) (by omega) sz) dX12_tells_12 rfl rfl rfl ⟨rfl, rfl⟩ [] rfl rfl (fun _ => rfl) (ws' := fun u_ => [(hM, oB 11 [vi wi, vi hi, .ref mN, .ref mC, vi cm, vi ca, .ref mL, vi sc, vi qu, vi fp, .ref mT, vi lm, vi nw, vi nh, vi nr, .ref mF, .ref mR, .ref mD, .ref mA, vi ii, vi wo, vi wd, vi oe, .ref mK, vi rm, .ref mH, vi cn]), (mN, aI g 145 N), (mA, aI g 121 Fa)]) (fun _ => rfl) (fun r_12 u_ p_12 => ?_)
    have p_12 : (r_12 = 1 ∧ 0 ≤ q ∧ q ≤ 3) ∨ (r_12 = 0 ∧ ¬ (0 ≤ q ∧ q ≤ 3)) := p_12
    refine r_if_ne C 20 dX12_tells_15 rfl (by omega) (fun c_2 => ?_) (fun c_2 => ?_)
    · skip
      refine r_aload_n C dX12_tells_20 0 rfl ?_
      refine k_Vv C kv_X12_161 (fun sz => c_X12_laysFars l g hM wi hi mN mC cm ca mL sc qu fp mT lm nw nh nr mF mR mD mA ii wo wd oe mK rm mH cn N Fa hN kFa sz) dX12_tells_21 rfl rfl rfl ⟨rfl, rfl⟩ 0 11 rfl rfl rfl [0, 1, 2] rfl rfl (fun _ => rfl) (ws' := fun u_ => [(hM, oB 11 [vi wi, vi hi, .ref mN, .ref mC, vi cm, vi ca, .ref mL, vi sc, vi qu, vi fp, .ref mT, vi lm, vi nw, vi nh, vi nr, .ref mF, .ref mR, .ref mD, .ref mA, vi ii, vi wo, vi wd, vi oe, .ref mK, vi rm, .ref mH, vi cn]), (mN, aI g 145 N), (mA, aI g 121 u_)]) (fun _ => rfl) (fun u_ p_21 => ?_)
      obtain ⟨A2_21, rfl⟩ : ∃ w_, w_ = u_ := ⟨_, rfl⟩
      refine r_at (ws' := [(hM, oB 11 [vi wi, vi hi, .ref mN, .ref mC, vi cm, vi ca, .ref mL, vi sc, vi qu, vi fp, .ref mT, vi lm, vi nw, vi nh, vi nr, .ref mF, .ref mR, .ref mD, .ref mA, vi ii, vi wo, vi wd, vi oe, .ref mK, vi rm, .ref mH, vi cn]), (mN, aI g 145 N), (mA, aI g 121 A2_21)]) (lv' := [(0, .ref hM), (1, vi x), (2, vi y), (3, vi q)]) rfl rfl ?_
      have p_21 : FAM wi hi N A2_21 ∧ ∀ k : Int, 0 ≤ k → k < 121 → -2147483648 ≤ A2_21 k ∧ A2_21 k ≤ 2147483647 := p_21
      refine r_aload_n C dX12_tells_24 0 rfl ?_
      refine r_iload_n C dX12_tells_25 1 rfl ?_
      refine r_iload_n C dX12_tells_26 2 rfl ?_
      refine r_aload_n C dX12_tells_27 0 rfl ?_
      refine gf_X12_19 C dX12_tells_28 0 rfl rfl ?_
      refine r_aload_n C dX12_tells_31 0 rfl ?_
      refine gf_X12_108 C dX12_tells_32 0 rfl rfl ?_
      refine r_aload_n C dX12_tells_35 0 rfl ?_
      refine gf_X12_111 C dX12_tells_36 0 rfl rfl ?_
      refine k_Vi C kv_X12_164 (fun sz => c_X12_looks l g hM wi hi mN mC cm ca mL sc qu fp mT lm nw nh nr mF mR mD mA ii wo wd oe mK rm mH cn N A2_21 x y sc qu fp hN p_21.2 (by omega) k3 kt kf sz) dX12_tells_39 rfl rfl rfl ⟨rfl, rfl⟩ 0 11 rfl rfl rfl [0, 1, 2] rfl rfl (fun _ => rfl) (ws' := fun u_ => [(hM, oB 11 [vi wi, vi hi, .ref mN, .ref mC, vi cm, vi ca, .ref mL, vi sc, vi qu, vi fp, .ref mT, vi lm, vi nw, vi nh, vi nr, .ref mF, .ref mR, .ref mD, .ref mA, vi u_.1, vi u_.2.1, vi u_.2.2.1, vi u_.2.2.2, .ref mK, vi rm, .ref mH, vi cn]), (mN, aI g 145 N), (mA, aI g 121 A2_21)]) (fun _ => rfl) (fun r_39 u_ p_39 => ?_)
      obtain ⟨ii2_39, wo2_39, wd2_39, oe2_39⟩ := u_
      refine r_at (ws' := [(hM, oB 11 [vi wi, vi hi, .ref mN, .ref mC, vi cm, vi ca, .ref mL, vi sc, vi qu, vi fp, .ref mT, vi lm, vi nw, vi nh, vi nr, .ref mF, .ref mR, .ref mD, .ref mA, vi ii2_39, vi wo2_39, vi wd2_39, vi oe2_39, .ref mK, vi rm, .ref mH, vi cn]), (mN, aI g 145 N), (mA, aI g 121 A2_21)]) (lv' := [(0, .ref hM), (1, vi x), (2, vi y), (3, vi q)]) rfl rfl ?_
      have p_39 : (r_39 = 1 ∧ FT (LXM N sc qu fp) (LYM N sc qu fp) (N 141) wi hi x y ∧ ii2_39 = sI (gFM A2_21 (LXM N sc qu fp) (LYM N sc qu fp) x y) (N 141) ∧ wo2_39 = mxM (gFM A2_21 (LXM N sc qu fp) (LYM N sc qu fp) x y) (N 141).toNat ∧ wd2_39 = wdM (gFM A2_21 (LXM N sc qu fp) (LYM N sc qu fp) x y) wd (N 141).toNat ∧ oe2_39 = sI (gFM N (LXM N sc qu fp) (LYM N sc qu fp) x y) (N 141)) ∨ (r_39 = 0 ∧ ¬ FT (LXM N sc qu fp) (LYM N sc qu fp) (N 141) wi hi x y) := p_39
      refine r_if_eq C 67 dX12_tells_42 rfl (by omega) (fun c_3 => ?_) (fun c_3 => ?_)
      · skip
        refine r_bipush C dX12_tells_67 rfl ?_
        exact e_i C (ii2_39, wo2_39, wd2_39, oe2_39, A2_21) dX12_tells_69 (show (∀ k : Int, 0 ≤ k → k < 121 → -2147483648 ≤ A2_21 k ∧ A2_21 k ≤ 2147483647) ∧ (((-4) = -1 ∧ ¬ ((0 ≤ x ∧ x < wi ∧ 0 ≤ y ∧ y < hi) ∧ 0 ≤ q ∧ q ≤ 3)) ∨ ((-4) = -4 ∧ ((0 ≤ x ∧ x < wi ∧ 0 ≤ y ∧ y < hi) ∧ 0 ≤ q ∧ q ≤ 3) ∧ ¬ FT (LXM N sc qu fp) (LYM N sc qu fp) (N 141) wi hi x y) ∨ (((0 ≤ x ∧ x < wi ∧ 0 ≤ y ∧ y < hi) ∧ 0 ≤ q ∧ q ≤ 3) ∧ FT (LXM N sc qu fp) (LYM N sc qu fp) (N 141) wi hi x y ∧ (-4) = sI (tdF N (N 142) (LXM N sc qu fp) (LYM N sc qu fp) (N 141) x y q) 121)) from ⟨p_21.2, Or.inr (Or.inl ⟨rfl, by omega, fun z => by rcases p_39 with e | e; omega; exact e.2 z⟩)⟩) rfl
      · skip
        refine r_aload_n C dX12_tells_45 0 rfl ?_
        refine r_iload_n C dX12_tells_46 1 rfl ?_
        refine r_iload_n C dX12_tells_47 2 rfl ?_
        refine r_aload_n C dX12_tells_48 0 rfl ?_
        refine gf_X12_19 C dX12_tells_49 0 rfl rfl ?_
        refine r_aload_n C dX12_tells_52 0 rfl ?_
        refine gf_X12_108 C dX12_tells_53 0 rfl rfl ?_
        refine r_aload_n C dX12_tells_56 0 rfl ?_
        refine gf_X12_111 C dX12_tells_57 0 rfl rfl ?_
        refine r_iload_n C dX12_tells_60 3 rfl ?_
        refine k_Vi C kv_X12_173 (fun sz => c_X12_toldMany l g hM wi hi mN mC cm ca mL sc qu fp mT lm nw nh nr mF mR mD mA ii2_39 wo2_39 wd2_39 oe2_39 mK rm mH cn N x y sc qu fp q hN (by omega) k3 kt kf (by omega) sz) dX12_tells_61 rfl rfl rfl ⟨rfl, rfl⟩ 0 11 rfl rfl rfl [0, 1] rfl rfl (fun _ => rfl) (ws' := fun u_ => [(hM, oB 11 [vi wi, vi hi, .ref mN, .ref mC, vi cm, vi ca, .ref mL, vi sc, vi qu, vi fp, .ref mT, vi lm, vi nw, vi nh, vi nr, .ref mF, .ref mR, .ref mD, .ref mA, vi ii2_39, vi wo2_39, vi wd2_39, vi oe2_39, .ref mK, vi rm, .ref mH, vi cn]), (mN, aI g 145 N), (mA, aI g 121 A2_21)]) (fun _ => rfl) (fun r_61 u_ p_61 => ?_)
        have p_61 : r_61 = sI (tdF N (N 142) (LXM N sc qu fp) (LYM N sc qu fp) (N 141) x y q) 121 := p_61
        refine r_goto C 69 dX12_tells_64 rfl ?_
        exact e_i C (ii2_39, wo2_39, wd2_39, oe2_39, A2_21) dX12_tells_69 (show (∀ k : Int, 0 ≤ k → k < 121 → -2147483648 ≤ A2_21 k ∧ A2_21 k ≤ 2147483647) ∧ ((r_61 = -1 ∧ ¬ ((0 ≤ x ∧ x < wi ∧ 0 ≤ y ∧ y < hi) ∧ 0 ≤ q ∧ q ≤ 3)) ∨ (r_61 = -4 ∧ ((0 ≤ x ∧ x < wi ∧ 0 ≤ y ∧ y < hi) ∧ 0 ≤ q ∧ q ≤ 3) ∧ ¬ FT (LXM N sc qu fp) (LYM N sc qu fp) (N 141) wi hi x y) ∨ (((0 ≤ x ∧ x < wi ∧ 0 ≤ y ∧ y < hi) ∧ 0 ≤ q ∧ q ≤ 3) ∧ FT (LXM N sc qu fp) (LYM N sc qu fp) (N 141) wi hi x y ∧ r_61 = sI (tdF N (N 142) (LXM N sc qu fp) (LYM N sc qu fp) (N 141) x y q) 121)) from ⟨p_21.2, Or.inr (Or.inr ⟨by omega, (Or.resolve_right p_39 (fun z => by omega)).2.1, p_61⟩)⟩) rfl
    · skip
      refine r_iconst C dX12_tells_18 ?_
      exact e_i C (ii, wo, wd, oe, Fa) dX12_tells_19 (show (∀ k : Int, 0 ≤ k → k < 121 → -2147483648 ≤ Fa k ∧ Fa k ≤ 2147483647) ∧ (((-1) = -1 ∧ ¬ ((0 ≤ x ∧ x < wi ∧ 0 ≤ y ∧ y < hi) ∧ 0 ≤ q ∧ q ≤ 3)) ∨ ((-1) = -4 ∧ ((0 ≤ x ∧ x < wi ∧ 0 ≤ y ∧ y < hi) ∧ 0 ≤ q ∧ q ≤ 3) ∧ ¬ FT (LXM N sc qu fp) (LYM N sc qu fp) (N 141) wi hi x y) ∨ (((0 ≤ x ∧ x < wi ∧ 0 ≤ y ∧ y < hi) ∧ 0 ≤ q ∧ q ≤ 3) ∧ FT (LXM N sc qu fp) (LYM N sc qu fp) (N 141) wi hi x y ∧ (-1) = sI (tdF N (N 142) (LXM N sc qu fp) (LYM N sc qu fp) (N 141) x y q) 121)) from ⟨kFa, Or.inl ⟨rfl, by omega⟩⟩) rfl
