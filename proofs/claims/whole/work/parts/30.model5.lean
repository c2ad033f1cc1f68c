def TMR (wi hi rch ill : Int) (s0 s : MST) (t : Int) : Prop := ∃ (t9 : Nat) (R9 : Nat → MST) (A9 M9 : Nat → Int), TMS wi hi rch ill s0 t9 R9 A9 M9 ∧ s = R9 t9 ∧ (t9 : Int) = t
theorem TMR_0 (wi hi rch ill : Int) (s : MST) : TMR wi hi rch ill s s 0 := ⟨0, fun _ => s, fun _ => 0, fun _ => 0, ⟨rfl, fun i hi => absurd hi (Nat.not_lt_zero i)⟩, rfl, rfl⟩
theorem TMR_s {wi hi rch ill t r0 mn : Int} {s0 s s' : MST} (H : TMR wi hi rch ill s0 s t) (h1 : TMO wi hi rch ill s.1 r0 mn) (h2 : s.1 144 < 8) (h3 : s' = stM rch r0 mn s) : TMR wi hi rch ill s0 s' (t + 1) := by
  obtain ⟨t9, R9, A9, M9, a1, a2, a3⟩ := H
  subst a2
  exact ⟨t9 + 1, _, _, _, TMS_s a1 h1 h2, by rw [h3]; exact (if_pos rfl).symm, by omega⟩
set_option maxHeartbeats 1000000 in
set_option maxRecDepth 100000 in
theorem c_X12_takes (l : Launch) (g : Gx) (hM : Nat) (wi : Int) (hi : Int) (mN : Nat) (mC : Nat) (cm : Int) (ca : Int) (mL : Nat) (sc : Int) (qu : Int) (fp : Int) (mT : Nat) (lm : Int) (nw : Int) (nh : Int) (nr : Int) (mF : Nat) (mR : Nat) (mD : Nat) (mA : Nat) (ii : Int) (wo : Int) (wd : Int) (oe : Int) (mK : Nat) (rm : Int) (mH : Nat) (cn : Int) (N : Int → Int) (Cg : Int → Int) (Lg : Int → Int) (Fa : Int → Int) (Kr : Int → Int) (H : Int → Int) (rch : Int) (ill : Int) (hN : MOK wi hi N) (kca : 0 ≤ ca ∧ ca ≤ 5) (kcm : 0 ≤ cm ∧ cm ≤ 6) (kFa : ∀ k : Int, 0 ≤ k → k < 121 → -2147483648 ≤ Fa k ∧ Fa k ≤ 2147483647) (bbrch : -2147483648 ≤ rch ∧ rch ≤ 2147483647) (bbill : -2147483648 ≤ ill ∧ ill ≤ 2147483647) (sz : Nat) : Met l yX12_takes (.code yX12_takes cX12_takes 4 (some .int) :: wsL_law) { frames := 7, cells := 0, slots := 0, locals := 178 } (PR g [.ref hM, vi rch, vi ill] [(hM, oB 11 [vi wi, vi hi, .ref mN, .ref mC, vi cm, vi ca, .ref mL, vi sc, vi qu, vi fp, .ref mT, vi lm, vi nw, vi nh, vi nr, .ref mF, .ref mR, .ref mD, .ref mA, vi ii, vi wo, vi wd, vi oe, .ref mK, vi rm, .ref mH, vi cn]), (mN, aI g 145 N), (mC, aI g 870 Cg), (mL, aI g 56 Lg), (mA, aI g 121 Fa), (mK, aI g 2904 Kr), (mH, aI g 10 H)] sz) (PI (S := (Int → Int) × (Int → Int) × (Int → Int) × Int × Int × Int × Int × Int × Int × (Int → Int) × (Int → Int) × Int × (Int → Int) × Int) g (fun r u_ => (∀ k : Int, 0 ≤ k → k < 121 → -2147483648 ≤ u_.2.2.2.2.2.2.2.2.2.1 k ∧ u_.2.2.2.2.2.2.2.2.2.1 k ≤ 2147483647) ∧ ((r = -1 ∧ ¬ (0 ≤ rch ∧ rch ≤ 3 ∧ 0 ≤ ill ∧ ill ≤ 990) ∧ ((u_.1, u_.2.1, u_.2.2.2.1, u_.2.2.2.2.1, u_.2.2.1) : MST) = (N, Cg, ca, cm, Lg)) ∨ ((0 ≤ rch ∧ rch ≤ 3 ∧ 0 ≤ ill ∧ ill ≤ 990) ∧ TMR wi hi rch ill (N, Cg, ca, cm, Lg) (u_.1, u_.2.1, u_.2.2.2.1, u_.2.2.2.2.1, u_.2.2.1) r ∧ (r = 8 ∨ u_.1 144 = 8 ∨ TMX wi hi rch ill u_.1)))) (fun u_ => [(hM, oB 11 [vi wi, vi hi, .ref mN, .ref mC, vi u_.2.2.2.2.1, vi u_.2.2.2.1, .ref mL, vi sc, vi qu, vi fp, .ref mT, vi lm, vi nw, vi nh, vi nr, .ref mF, .ref mR, .ref mD, .ref mA, vi u_.2.2.2.2.2.1, vi u_.2.2.2.2.2.2.1, vi u_.2.2.2.2.2.2.2.1, vi u_.2.2.2.2.2.2.2.2.1, .ref mK, vi u_.2.2.2.2.2.2.2.2.2.2.2.1, .ref mH, vi u_.2.2.2.2.2.2.2.2.2.2.2.2.2]), (mN, aI g 145 u_.1), (mC, aI g 870 u_.2.1), (mL, aI g 56 u_.2.2.1), (mA, aI g 121 u_.2.2.2.2.2.2.2.2.2.1), (mK, aI g 2904 u_.2.2.2.2.2.2.2.2.2.2.1), (mH, aI g 10 u_.2.2.2.2.2.2.2.2.2.2.2.2.1)]) [(hM, oB 11 [vi wi, vi hi, .ref mN, .ref mC, vi cm, vi ca, .ref mL, vi sc, vi qu, vi fp, .ref mT, vi lm, vi nw, vi nh, vi nr, .ref mF, .ref mR, .ref mD, .ref mA, vi ii, vi wo, vi wd, vi oe, .ref mK, vi rm, .ref mH, vi cn]), (mN, aI g 145 N), (mC, aI g 870 Cg), (mL, aI g 56 Lg), (mA, aI g 121 Fa), (mK, aI g 2904 Kr), (mH, aI g 10 H)] sz) 0 0 (va_A [(hM, oB 11 [vi wi, vi hi, .ref mN, .ref mC, vi cm, vi ca, .ref mL, vi sc, vi qu, vi fp, .ref mT, vi lm, vi nw, vi nh, vi nr, .ref mF, .ref mR, .ref mD, .ref mA, vi ii, vi wo, vi wd, vi oe, .ref mK, vi rm, .ref mH, vi cn]), (mN, aI g 145 N), (mC, aI g 870 Cg), (mL, aI g 56 Lg), (mA, aI g 121 Fa), (mK, aI g 2904 Kr), (mH, aI g 10 H)] sz) := by
  refine meet (own := RX12) rfl (plainFor_of_name (by decide +kernel)) rfl (fun p_ e_ s_ m_ args_ below_ meth_ c_ C hnm => ?_)
  refine r_at (ws' := [(hM, oB 11 [vi wi, vi hi, .ref mN, .ref mC, vi cm, vi ca, .ref mL, vi sc, vi qu, vi fp, .ref mT, vi lm, vi nw, vi nh, vi nr, .ref mF, .ref mR, .ref mD, .ref mA, vi ii, vi wo, vi wd, vi oe, .ref mK, vi rm, .ref mH, vi cn]), (mN, aI g 145 N), (mC, aI g 870 Cg), (mL, aI g 56 Lg), (mA, aI g 121 Fa), (mK, aI g 2904 Kr), (mH, aI g 10 H)]) (lv' := [(0, .ref hM), (1, vi rch), (2, vi ill)]) rfl rfl ?_
  refine r_iload_n C dX12_takes_0 1 rfl ?_
  refine r_iload_n C dX12_takes_1 2 rfl ?_
  refine k_Si C ks_X12_203 (fun sz => c_X12_isTaking l g rch ill (by omega) (by omega) sz) dX12_takes_2 rfl rfl rfl ⟨rfl, rfl⟩ [] rfl rfl (fun _ => rfl) (ws' := fun u_ => [(hM, oB 11 [vi wi, vi hi, .ref mN, .ref mC, vi cm, vi ca, .ref mL, vi sc, vi qu, vi fp, .ref mT, vi lm, vi nw, vi nh, vi nr, .ref mF, .ref mR, .ref mD, .ref mA, vi ii, vi wo, vi wd, vi oe, .ref mK, vi rm, .ref mH, vi cn]), (mN, aI g 145 N), (mC, aI g 870 Cg), (mL, aI g 56 Lg), (mA, aI g 121 Fa), (mK, aI g 2904 Kr), (mH, aI g 10 H)]) (fun _ => rfl) (fun r_2 u_ p_2 => ?_)
  have p_2 : (r_2 = 1 ∧ (0 ≤ rch ∧ rch ≤ 3 ∧ 0 ≤ ill ∧ ill ≤ 990)) ∨ (r_2 = 0 ∧ ¬ (0 ≤ rch ∧ rch ≤ 3 ∧ 0 ≤ ill ∧ ill ≤ 990)) := p_2
  refine r_if_ne C 10 dX12_takes_5 rfl (by omega) (fun c_1 => ?_) (fun c_1 => ?_)
  · skip
    refine r_iconst C dX12_takes_10 ?_
    refine r_istore_n C (lv' := [(3, vi 0), (0, .ref hM), (1, vi rch), (2, vi ill)]) dX12_takes_11 rfl rfl ?_
    refine r_lv (lv' := [(0, .ref hM), (1, vi rch), (2, vi ill), (3, vi 0)]) [1, 2, 3, 0] rfl ?_
    refine r_loop (σ := Int × (Int → Int) × (Int → Int) × (Int → Int) × Int × Int × Int × Int × Int × Int × (Int → Int) × (Int → Int) × Int × (Int → Int) × Int) (fun z_ => (0 ≤ z_.1 ∧ z_.1 ≤ 8) ∧ (MOK wi hi z_.2.1) ∧ (0 ≤ z_.2.2.2.2.1 ∧ z_.2.2.2.2.1 ≤ 5) ∧ (0 ≤ z_.2.2.2.2.2.1 ∧ z_.2.2.2.2.2.1 ≤ 6) ∧ (∀ k : Int, 0 ≤ k → k < 121 → -2147483648 ≤ z_.2.2.2.2.2.2.2.2.2.2.1 k ∧ z_.2.2.2.2.2.2.2.2.2.2.1 k ≤ 2147483647) ∧ (TMR wi hi rch ill (N, Cg, ca, cm, Lg) (z_.2.1, z_.2.2.1, z_.2.2.2.2.1, z_.2.2.2.2.2.1, z_.2.2.2.1) z_.1)) (fun z_ => 8 - z_.1) (fun z_ => [(hM, oB 11 [vi wi, vi hi, .ref mN, .ref mC, vi z_.2.2.2.2.2.1, vi z_.2.2.2.2.1, .ref mL, vi sc, vi qu, vi fp, .ref mT, vi lm, vi nw, vi nh, vi nr, .ref mF, .ref mR, .ref mD, .ref mA, vi z_.2.2.2.2.2.2.1, vi z_.2.2.2.2.2.2.2.1, vi z_.2.2.2.2.2.2.2.2.1, vi z_.2.2.2.2.2.2.2.2.2.1, .ref mK, vi z_.2.2.2.2.2.2.2.2.2.2.2.2.1, .ref mH, vi z_.2.2.2.2.2.2.2.2.2.2.2.2.2.2]), (mN, aI g 145 z_.2.1), (mC, aI g 870 z_.2.2.1), (mL, aI g 56 z_.2.2.2.1), (mA, aI g 121 z_.2.2.2.2.2.2.2.2.2.2.1), (mK, aI g 2904 z_.2.2.2.2.2.2.2.2.2.2.2.1), (mH, aI g 10 z_.2.2.2.2.2.2.2.2.2.2.2.2.2.1)]) (fun z_ => [(0, .ref hM), (1, vi rch), (2, vi ill), (3, vi z_.1)]) (fun z_ hz => ?_) (fun z_ hz ih_12 => ?_) (((0, N, Cg, Lg, ca, cm, ii, wo, wd, oe, Fa, Kr, rm, H, cn) : Int × (Int → Int) × (Int → Int) × (Int → Int) × Int × Int × Int × Int × Int × Int × (Int → Int) × (Int → Int) × Int × (Int → Int) × Int)) ?_
    · obtain ⟨t, N6, C6, L6, ca6, cm6, ii6, wo6, wd6, oe6, A6, K6, rm6, H6, cn6⟩ := z_
      obtain ⟨jt, jN, jca, jcm, jA, jT⟩ := hz
      have jt : 0 ≤ t ∧ t ≤ 8 := jt
      have jN : MOK wi hi N6 := jN
      have jca : 0 ≤ ca6 ∧ ca6 ≤ 5 := jca
      have jcm : 0 ≤ cm6 ∧ cm6 ≤ 6 := jcm
      have jA : ∀ k : Int, 0 ≤ k → k < 121 → -2147483648 ≤ A6 k ∧ A6 k ≤ 2147483647 := jA
      have jT : TMR wi hi rch ill (N, Cg, ca, cm, Lg) (N6, C6, ca6, cm6, L6) t := jT
      show (0 : Int) ≤ 8 - t
      omega
    rotate_left
    · show (0 ≤ 0 ∧ 0 ≤ 8) ∧ (MOK wi hi N) ∧ (0 ≤ ca ∧ ca ≤ 5) ∧ (0 ≤ cm ∧ cm ≤ 6) ∧ (∀ k : Int, 0 ≤ k → k < 121 → -2147483648 ≤ Fa k ∧ Fa k ≤ 2147483647) ∧ (TMR wi hi rch ill (N, Cg, ca, cm, Lg) (N, Cg, ca, cm, Lg) 0)
      exact ⟨(by decide), (hN), (kca), (kcm), (kFa), (TMR_0 _ _ _ _ _)⟩
    obtain ⟨t, N6, C6, L6, ca6, cm6, ii6, wo6, wd6, oe6, A6, K6, rm6, H6, cn6⟩ := z_
    obtain ⟨jt, jN, jca, jcm, jA, jT⟩ := hz
    have jt : 0 ≤ t ∧ t ≤ 8 := jt
    have jN : MOK wi hi N6 := jN
    have jca : 0 ≤ ca6 ∧ ca6 ≤ 5 := jca
    have jcm : 0 ≤ cm6 ∧ cm6 ≤ 6 := jcm
    have jA : ∀ k : Int, 0 ≤ k → k < 121 → -2147483648 ≤ A6 k ∧ A6 k ≤ 2147483647 := jA
    have jT : TMR wi hi rch ill (N, Cg, ca, cm, Lg) (N6, C6, ca6, cm6, L6) t := jT
    refine r_at (ws' := [(hM, oB 11 [vi wi, vi hi, .ref mN, .ref mC, vi cm6, vi ca6, .ref mL, vi sc, vi qu, vi fp, .ref mT, vi lm, vi nw, vi nh, vi nr, .ref mF, .ref mR, .ref mD, .ref mA, vi ii6, vi wo6, vi wd6, vi oe6, .ref mK, vi rm6, .ref mH, vi cn6]), (mN, aI g 145 N6), (mC, aI g 870 C6), (mL, aI g 56 L6), (mA, aI g 121 A6), (mK, aI g 2904 K6), (mH, aI g 10 H6)]) (lv' := [(0, .ref hM), (1, vi rch), (2, vi ill), (3, vi t)]) rfl rfl ?_
    refine r_iload_n C dX12_takes_12 3 rfl ?_
    refine r_bipush C dX12_takes_13 rfl ?_
    refine r_icmp_ge C 33 dX12_takes_15 rfl (by omega) (fun c_2 => ?_) (fun c_2 => ?_)
    · skip
      refine r_iload_n C dX12_takes_33 3 rfl ?_
      exact e_i C (N6, C6, L6, ca6, cm6, ii6, wo6, wd6, oe6, A6, K6, rm6, H6, cn6) dX12_takes_34 (show (∀ k : Int, 0 ≤ k → k < 121 → -2147483648 ≤ A6 k ∧ A6 k ≤ 2147483647) ∧ ((t = -1 ∧ ¬ (0 ≤ rch ∧ rch ≤ 3 ∧ 0 ≤ ill ∧ ill ≤ 990) ∧ ((N6, C6, ca6, cm6, L6) : MST) = (N, Cg, ca, cm, Lg)) ∨ ((0 ≤ rch ∧ rch ≤ 3 ∧ 0 ≤ ill ∧ ill ≤ 990) ∧ TMR wi hi rch ill (N, Cg, ca, cm, Lg) (N6, C6, ca6, cm6, L6) t ∧ (t = 8 ∨ N6 144 = 8 ∨ TMX wi hi rch ill N6))) from ⟨jA, Or.inr ⟨by omega, jT, Or.inl (by omega)⟩⟩) rfl
    · skip
      refine r_aload_n C dX12_takes_18 0 rfl ?_
      refine r_iload_n C dX12_takes_19 1 rfl ?_
      refine r_iload_n C dX12_takes_20 2 rfl ?_
      refine m_Vi C kv_X12_206 (fun sz => c_X12_takeOne l g hM wi hi mN mC cm6 ca6 mL sc qu fp mT lm nw nh nr mF mR mD mA ii6 wo6 wd6 oe6 mK rm6 mH cn6 N6 C6 L6 A6 K6 H6 rch ill jN jca jcm jA (by omega) (by omega) sz) dX12_takes_21 rfl rfl rfl ⟨rfl, rfl⟩ 0 11 rfl rfl rfl [true, true, true, true, true, true, true] rfl (fun _ => rfl) (ws' := fun u_ => [(hM, oB 11 [vi wi, vi hi, .ref mN, .ref mC, vi u_.2.2.2.2.1, vi u_.2.2.2.1, .ref mL, vi sc, vi qu, vi fp, .ref mT, vi lm, vi nw, vi nh, vi nr, .ref mF, .ref mR, .ref mD, .ref mA, vi u_.2.2.2.2.2.1, vi u_.2.2.2.2.2.2.1, vi u_.2.2.2.2.2.2.2.1, vi u_.2.2.2.2.2.2.2.2.1, .ref mK, vi u_.2.2.2.2.2.2.2.2.2.2.2.1, .ref mH, vi u_.2.2.2.2.2.2.2.2.2.2.2.2.2]), (mN, aI g 145 u_.1), (mC, aI g 870 u_.2.1), (mL, aI g 56 u_.2.2.1), (mA, aI g 121 u_.2.2.2.2.2.2.2.2.2.1), (mK, aI g 2904 u_.2.2.2.2.2.2.2.2.2.2.1), (mH, aI g 10 u_.2.2.2.2.2.2.2.2.2.2.2.2.1)]) (fun _ => rfl) (fun r_21 u_ p_21 => ?_)
      obtain ⟨N2_21, C2_21, L2_21, ca2_21, cm2_21, ii2_21, wo2_21, wd2_21, oe2_21, A2_21, K2_21, rm2_21, H2_21, cn2_21⟩ := u_
      refine r_at (ws' := [(hM, oB 11 [vi wi, vi hi, .ref mN, .ref mC, vi cm2_21, vi ca2_21, .ref mL, vi sc, vi qu, vi fp, .ref mT, vi lm, vi nw, vi nh, vi nr, .ref mF, .ref mR, .ref mD, .ref mA, vi ii2_21, vi wo2_21, vi wd2_21, vi oe2_21, .ref mK, vi rm2_21, .ref mH, vi cn2_21]), (mN, aI g 145 N2_21), (mC, aI g 870 C2_21), (mL, aI g 56 L2_21), (mA, aI g 121 A2_21), (mK, aI g 2904 K2_21), (mH, aI g 10 H2_21)]) (lv' := [(0, .ref hM), (1, vi rch), (2, vi ill), (3, vi t)]) rfl rfl ?_
      have p_21 : (∀ k : Int, 0 ≤ k → k < 121 → -2147483648 ≤ A2_21 k ∧ A2_21 k ≤ 2147483647) ∧ ((r_21 = -3 ∧ N6 144 = 8 ∧ ((N2_21, C2_21, ca2_21, cm2_21, L2_21) : MST) = (N6, C6, ca6, cm6, L6)) ∨ (N6 144 < 8 ∧ ((r_21 = -2 ∧ TMX wi hi rch ill N6 ∧ ((N2_21, C2_21, ca2_21, cm2_21, L2_21) : MST) = (N6, C6, ca6, cm6, L6)) ∨ (0 < r_21 ∧ r_21 ≤ 121 ∧ ∃ r0 : Int, TMO wi hi rch ill N6 r0 r_21 ∧ ((N2_21, C2_21, ca2_21, cm2_21, L2_21) : MST) = stM rch r0 r_21 (N6, C6, ca6, cm6, L6))))) := p_21
      refine r_if_le C 33 dX12_takes_24 rfl (by rcases p_21.2 with ⟨y1, -⟩ | ⟨-, ⟨y1, -⟩ | ⟨y1, y2, -⟩⟩ <;> omega) (fun c_3 => ?_) (fun c_3 => ?_)
      · skip
        refine r_iload_n C dX12_takes_33 3 rfl ?_
        exact e_i C (N2_21, C2_21, L2_21, ca2_21, cm2_21, ii2_21, wo2_21, wd2_21, oe2_21, A2_21, K2_21, rm2_21, H2_21, cn2_21) dX12_takes_34 (show (∀ k : Int, 0 ≤ k → k < 121 → -2147483648 ≤ A2_21 k ∧ A2_21 k ≤ 2147483647) ∧ ((t = -1 ∧ ¬ (0 ≤ rch ∧ rch ≤ 3 ∧ 0 ≤ ill ∧ ill ≤ 990) ∧ ((N2_21, C2_21, ca2_21, cm2_21, L2_21) : MST) = (N, Cg, ca, cm, Lg)) ∨ ((0 ≤ rch ∧ rch ≤ 3 ∧ 0 ≤ ill ∧ ill ≤ 990) ∧ TMR wi hi rch ill (N, Cg, ca, cm, Lg) (N2_21, C2_21, ca2_21, cm2_21, L2_21) t ∧ (t = 8 ∨ N2_21 144 = 8 ∨ TMX wi hi rch ill N2_21))) from ⟨p_21.1, Or.inr ⟨by omega, by
      rcases p_21.2 with ⟨y1, y2, y3⟩ | ⟨y0, ⟨y1, y2, y3⟩ | ⟨y1, y2, y3⟩⟩
      · have e1 : N2_21 = N6 := congrArg (fun s : MST => s.1) y3
        exact ⟨y3 ▸ jT, Or.inr (Or.inl (by rw [e1]; exact y2))⟩
      · have e1 : N2_21 = N6 := congrArg (fun s : MST => s.1) y3
        exact ⟨y3 ▸ jT, Or.inr (Or.inr (by rw [e1]; exact y2))⟩
      · clear y3; omega⟩⟩) rfl
      · skip
        obtain ⟨z0, z1, r0, z2, z3⟩ : N6 144 < 8 ∧ 0 < r_21 ∧ ∃ r0 : Int, TMO wi hi rch ill N6 r0 r_21 ∧ ((N2_21, C2_21, ca2_21, cm2_21, L2_21) : MST) = stM rch r0 r_21 (N6, C6, ca6, cm6, L6) := by
          rcases p_21.2 with ⟨y1, -⟩ | ⟨y0, ⟨y1, -⟩ | ⟨y1, -, y2⟩⟩
          · omega
          · omega
          · exact ⟨y0, y1, y2⟩
        have e1 : N2_21 = zU (tkC (tlN N6 r0 rch) N6 121) 144 (N6 144 + 1) := congrArg (fun s : MST => s.1) z3
        have e2 : ca2_21 = (ca6 + 1) % 6 := congrArg (fun s : MST => s.2.2.1) z3
        have e3 : cm2_21 = min (cm6 + 1) 6 := congrArg (fun s : MST => s.2.2.2.1) z3
        refine r_iinc C (lv' := [(3, vi (t + 1)), (0, .ref hM), (1, vi rch), (2, vi ill)]) dX12_takes_27 3 rfl rfl rfl ?_
        refine r_goto C 12 dX12_takes_30 rfl ?_
        refine r_lv (lv' := [(0, .ref hM), (1, vi rch), (2, vi ill), (3, vi (t + 1))]) [1, 2, 3, 0] rfl ?_
        exact ih_12 (t + 1, N2_21, C2_21, L2_21, ca2_21, cm2_21, ii2_21, wo2_21, wd2_21, oe2_21, A2_21, K2_21, rm2_21, H2_21, cn2_21) (show (0 ≤ (t + 1) ∧ (t + 1) ≤ 8) ∧ (MOK wi hi N2_21) ∧ (0 ≤ ca2_21 ∧ ca2_21 ≤ 5) ∧ (0 ≤ cm2_21 ∧ cm2_21 ≤ 6) ∧ (∀ k : Int, 0 ≤ k → k < 121 → -2147483648 ≤ A2_21 k ∧ A2_21 k ≤ 2147483647) ∧ (TMR wi hi rch ill (N, Cg, ca, cm, Lg) (N2_21, C2_21, ca2_21, cm2_21, L2_21) (t + 1)) from ⟨(by omega), (by rw [e1]; exact MOK_144 (by have := jN.2.2.2.2.2.2.2.2.2; omega) (MOK_tk (by omega) jN)), (by omega), (by omega), (p_21.1), (TMR_s jT z2 z0 z3)⟩) (show 8 - (t + 1) < 8 - t from by omega)
  · skip
    refine r_iconst C dX12_takes_8 ?_
    exact e_i C (N, Cg, Lg, ca, cm, ii, wo, wd, oe, Fa, Kr, rm, H, cn) dX12_takes_9 (show (∀ k : Int, 0 ≤ k → k < 121 → -2147483648 ≤ Fa k ∧ Fa k ≤ 2147483647) ∧ (((-1) = -1 ∧ ¬ (0 ≤ rch ∧ rch ≤ 3 ∧ 0 ≤ ill ∧ ill ≤ 990) ∧ ((N, Cg, ca, cm, Lg) : MST) = (N, Cg, ca, cm, Lg)) ∨ ((0 ≤ rch ∧ rch ≤ 3 ∧ 0 ≤ ill ∧ ill ≤ 990) ∧ TMR wi hi rch ill (N, Cg, ca, cm, Lg) (N, Cg, ca, cm, Lg) (-1) ∧ ((-1) = 8 ∨ N 144 = 8 ∨ TMX wi hi rch ill N))) from ⟨kFa, Or.inl ⟨rfl, by omega, rfl⟩⟩) rfl
set_option maxHeartbeats 1000000 in
set_option maxRecDepth 100000 in
theorem c_X12_ledger (l : Launch) (g : Gx) (hM : Nat) (wi : Int) (hi : Int) (mN : Nat) (mC : Nat) (cm : Int) (ca : Int) (mL : Nat) (sc : Int) (qu : Int) (fp : Int) (mT : Nat) (lm : Int) (nw : Int) (nh : Int) (nr : Int) (mF : Nat) (mR : Nat) (mD : Nat) (mA : Nat) (ii : Int) (wo : Int) (wd : Int) (oe : Int) (mK : Nat) (rm : Int) (mH : Nat) (cn : Int) (N : Int → Int) (Lg : Int → Int) (i : Int) (q : Int) (kb : 0 ≤ N 144 ∧ N 144 ≤ 8) (bbi : -2147483648 ≤ i ∧ i ≤ 2147483647) (bbq : -2147483648 ≤ q ∧ q ≤ 2147483647) (sz : Nat) : Met l yX12_ledger (.code yX12_ledger cX12_ledger 3 (some .int) :: wsL_law) { frames := 1, cells := 0, slots := 0, locals := 22 } (PR g [.ref hM, vi i, vi q] [(hM, oB 11 [vi wi, vi hi, .ref mN, .ref mC, vi cm, vi ca, .ref mL, vi sc, vi qu, vi fp, .ref mT, vi lm, vi nw, vi nh, vi nr, .ref mF, .ref mR, .ref mD, .ref mA, vi ii, vi wo, vi wd, vi oe, .ref mK, vi rm, .ref mH, vi cn]), (mN, aI g 145 N), (mL, aI g 56 Lg)] sz) (PI (S := Unit) g (fun r u_ => r = if -1 ≤ i ∧ 0 ≤ q ∧ q ≤ 6 then (if i = -1 then N 144 else if 0 ≤ i ∧ i < N 144 then Lg (7 * i + q) else -4) else -1) (fun u_ => [(hM, oB 11 [vi wi, vi hi, .ref mN, .ref mC, vi cm, vi ca, .ref mL, vi sc, vi qu, vi fp, .ref mT, vi lm, vi nw, vi nh, vi nr, .ref mF, .ref mR, .ref mD, .ref mA, vi ii, vi wo, vi wd, vi oe, .ref mK, vi rm, .ref mH, vi cn]), (mN, aI g 145 N), (mL, aI g 56 Lg)]) [(hM, oB 11 [vi wi, vi hi, .ref mN, .ref mC, vi cm, vi ca, .ref mL, vi sc, vi qu, vi fp, .ref mT, vi lm, vi nw, vi nh, vi nr, .ref mF, .ref mR, .ref mD, .ref mA, vi ii, vi wo, vi wd, vi oe, .ref mK, vi rm, .ref mH, vi cn]), (mN, aI g 145 N), (mL, aI g 56 Lg)] sz) 0 0 (va_A [(hM, oB 11 [vi wi, vi hi, .ref mN, .ref mC, vi cm, vi ca, .ref mL, vi sc, vi qu, vi fp, .ref mT, vi lm, vi nw, vi nh, vi nr, .ref mF, .ref mR, .ref mD, .ref mA, vi ii, vi wo, vi wd, vi oe, .ref mK, vi rm, .ref mH, vi cn]), (mN, aI g 145 N), (mL, aI g 56 Lg)] sz) := by
  refine meet (own := RX12) rfl (plainFor_of_name (by decide +kernel)) rfl (fun p_ e_ s_ m_ args_ below_ meth_ c_ C hnm => ?_)
  refine r_at (ws' := [(hM, oB 11 [vi wi, vi hi, .ref mN, .ref mC, vi cm, vi ca, .ref mL, vi sc, vi qu, vi fp, .ref mT, vi lm, vi nw, vi nh, vi nr, .ref mF, .ref mR, .ref mD, .ref mA, vi ii, vi wo, vi wd, vi oe, .ref mK, vi rm, .ref mH, vi cn]), (mN, aI g 145 N), (mL, aI g 56 Lg)]) (lv' := [(0, .ref hM), (1, vi i), (2, vi q)]) rfl rfl ?_
  refine r_iload_n C dX12_ledger_0 1 rfl ?_
  refine r_iconst C dX12_ledger_1 ?_
  refine r_icmp_lt C 15 dX12_ledger_2 rfl (by omega) (fun c_1 => ?_) (fun c_1 => ?_)
  · skip
    refine r_iconst C dX12_ledger_15 ?_
    exact e_i C () dX12_ledger_16 (show (-1) = if -1 ≤ i ∧ 0 ≤ q ∧ q ≤ 6 then (if i = -1 then N 144 else if 0 ≤ i ∧ i < N 144 then Lg (7 * i + q) else -4) else -1 from by rw [if_neg (by omega)]) rfl
  · skip
    refine r_iload_n C dX12_ledger_5 2 rfl ?_
    refine r_iconst C dX12_ledger_6 ?_
    refine r_bipush C dX12_ledger_7 rfl ?_
    refine k_Si C ks_X12_58 (fun sz => c_X12_in l g q 0 6 (by omega) (by omega) (by omega) sz) dX12_ledger_9 rfl rfl rfl ⟨rfl, rfl⟩ [] rfl rfl (fun _ => rfl) (ws' := fun u_ => [(hM, oB 11 [vi wi, vi hi, .ref mN, .ref mC, vi cm, vi ca, .ref mL, vi sc, vi qu, vi fp, .ref mT, vi lm, vi nw, vi nh, vi nr, .ref mF, .ref mR, .ref mD, .ref mA, vi ii, vi wo, vi wd, vi oe, .ref mK, vi rm, .ref mH, vi cn]), (mN, aI g 145 N), (mL, aI g 56 Lg)]) (fun _ => rfl) (fun r_9 u_ p_9 => ?_)
    have p_9 : (r_9 = 1 ∧ 0 ≤ q ∧ q ≤ 6) ∨ (r_9 = 0 ∧ ¬ (0 ≤ q ∧ q ≤ 6)) := p_9
    refine r_if_ne C 17 dX12_ledger_12 rfl (by omega) (fun c_2 => ?_) (fun c_2 => ?_)
    · skip
      refine r_iload_n C dX12_ledger_17 1 rfl ?_
      refine r_if_ge C 32 dX12_ledger_18 rfl (by omega) (fun c_3 => ?_) (fun c_3 => ?_)
      · skip
        refine r_iload_n C dX12_ledger_32 1 rfl ?_
        refine r_aload_n C dX12_ledger_33 0 rfl ?_
        refine gf_X12_7 C dX12_ledger_34 0 rfl rfl ?_
        refine r_sipush C dX12_ledger_37 rfl ?_
        refine r_iald C dX12_ledger_40 1 rfl rfl (by omega) ?_
        refine r_icmp_ge C 58 dX12_ledger_41 rfl (by omega) (fun c_4 => ?_) (fun c_4 => ?_)
        · skip
          refine r_bipush C dX12_ledger_58 rfl ?_
          exact e_i C () dX12_ledger_60 (show (-4) = if -1 ≤ i ∧ 0 ≤ q ∧ q ≤ 6 then (if i = -1 then N 144 else if 0 ≤ i ∧ i < N 144 then Lg (7 * i + q) else -4) else -1 from by rw [if_pos (by omega), if_neg (by omega), if_neg (by omega)]) rfl
        · skip
          refine r_aload_n C dX12_ledger_44 0 rfl ?_
          refine gf_X12_16 C dX12_ledger_45 0 rfl rfl ?_
          refine r_bipush C dX12_ledger_48 rfl ?_
          refine r_iload_n C dX12_ledger_50 1 rfl ?_
          refine r_imul C dX12_ledger_51 ?_
          refine r_iload_n C dX12_ledger_52 2 rfl ?_
          refine r_iadd C dX12_ledger_53 ?_
          refine r_iald C dX12_ledger_54 2 rfl rfl (by omega) ?_
          refine r_goto C 60 dX12_ledger_55 rfl ?_
          exact e_i C () dX12_ledger_60 (show (Lg ((7 * i) + q)) = if -1 ≤ i ∧ 0 ≤ q ∧ q ≤ 6 then (if i = -1 then N 144 else if 0 ≤ i ∧ i < N 144 then Lg (7 * i + q) else -4) else -1 from by rw [if_pos (by omega), if_neg (by omega), if_pos (by omega)]) rfl
      · skip
        refine r_aload_n C dX12_ledger_21 0 rfl ?_
        refine gf_X12_7 C dX12_ledger_22 0 rfl rfl ?_
        refine r_sipush C dX12_ledger_25 rfl ?_
        refine r_iald C dX12_ledger_28 1 rfl rfl (by omega) ?_
        refine r_goto C 60 dX12_ledger_29 rfl ?_
        exact e_i C () dX12_ledger_60 (show (N 144) = if -1 ≤ i ∧ 0 ≤ q ∧ q ≤ 6 then (if i = -1 then N 144 else if 0 ≤ i ∧ i < N 144 then Lg (7 * i + q) else -4) else -1 from by rw [if_pos (by omega), if_pos (by omega)]) rfl
    · skip
      refine r_iconst C dX12_ledger_15 ?_
      exact e_i C () dX12_ledger_16 (show (-1) = if -1 ≤ i ∧ 0 ≤ q ∧ q ≤ 6 then (if i = -1 then N 144 else if 0 ≤ i ∧ i < N 144 then Lg (7 * i + q) else -4) else -1 from by rw [if_neg (by omega)]) rfl
set_option maxHeartbeats 1000000 in
set_option maxRecDepth 100000 in
theorem c_X12_count (l : Launch) (g : Gx) (hM : Nat) (wi : Int) (hi : Int) (mN : Nat) (mC : Nat) (cm : Int) (ca : Int) (mL : Nat) (sc : Int) (qu : Int) (fp : Int) (mT : Nat) (lm : Int) (nw : Int) (nh : Int) (nr : Int) (mF : Nat) (mR : Nat) (mD : Nat) (mA : Nat) (ii : Int) (wo : Int) (wd : Int) (oe : Int) (mK : Nat) (rm : Int) (mH : Nat) (cn : Int) (N : Int → Int) (q : Int) (bbq : -2147483648 ≤ q ∧ q ≤ 2147483647) (sz : Nat) : Met l yX12_count (.code yX12_count cX12_count 2 (some .int) :: wsL_law) { frames := 1, cells := 0, slots := 0, locals := 22 } (PR g [.ref hM, vi q] [(hM, oB 11 [vi wi, vi hi, .ref mN, .ref mC, vi cm, vi ca, .ref mL, vi sc, vi qu, vi fp, .ref mT, vi lm, vi nw, vi nh, vi nr, .ref mF, .ref mR, .ref mD, .ref mA, vi ii, vi wo, vi wd, vi oe, .ref mK, vi rm, .ref mH, vi cn]), (mN, aI g 145 N)] sz) (PI (S := Unit) g (fun r u_ => r = (if q = 0 then wi else if q = 1 then hi else if q = 2 then sI N 121 else if q = 3 then N 141 else if q = 4 then N 142 else if q = 5 then N 143 else if q = 6 then cm else if q = 7 then lm else if q = 8 then sc else if q = 9 then qu else if q = 10 then fp else -1)) (fun u_ => [(hM, oB 11 [vi wi, vi hi, .ref mN, .ref mC, vi cm, vi ca, .ref mL, vi sc, vi qu, vi fp, .ref mT, vi lm, vi nw, vi nh, vi nr, .ref mF, .ref mR, .ref mD, .ref mA, vi ii, vi wo, vi wd, vi oe, .ref mK, vi rm, .ref mH, vi cn]), (mN, aI g 145 N)]) [(hM, oB 11 [vi wi, vi hi, .ref mN, .ref mC, vi cm, vi ca, .ref mL, vi sc, vi qu, vi fp, .ref mT, vi lm, vi nw, vi nh, vi nr, .ref mF, .ref mR, .ref mD, .ref mA, vi ii, vi wo, vi wd, vi oe, .ref mK, vi rm, .ref mH, vi cn]), (mN, aI g 145 N)] sz) 0 0 (va_A [(hM, oB 11 [vi wi, vi hi, .ref mN, .ref mC, vi cm, vi ca, .ref mL, vi sc, vi qu, vi fp, .ref mT, vi lm, vi nw, vi nh, vi nr, .ref mF, .ref mR, .ref mD, .ref mA, vi ii, vi wo, vi wd, vi oe, .ref mK, vi rm, .ref mH, vi cn]), (mN, aI g 145 N)] sz) := by
  refine meet (own := RX12) rfl (plainFor_of_name (by decide +kernel)) rfl (fun p_ e_ s_ m_ args_ below_ meth_ c_ C hnm => ?_)
  refine r_at (ws' := [(hM, oB 11 [vi wi, vi hi, .ref mN, .ref mC, vi cm, vi ca, .ref mL, vi sc, vi qu, vi fp, .ref mT, vi lm, vi nw, vi nh, vi nr, .ref mF, .ref mR, .ref mD, .ref mA, vi ii, vi wo, vi wd, vi oe, .ref mK, vi rm, .ref mH, vi cn]), (mN, aI g 145 N)]) (lv' := [(0, .ref hM), (1, vi q)]) rfl rfl ?_
  refine r_iload_n C dX12_count_0 1 rfl ?_
  by_cases c_1 : q = 0
  · refine r_tabIn C 60 (v := 0) dX12_count_1 c_1 (by omega) rfl rfl ?_
    refine r_aload_n C dX12_count_60 0 rfl ?_
    refine gf_X12_44 C dX12_count_61 0 rfl rfl ?_
    exact e_i C () dX12_count_64 (show wi = (if q = 0 then wi else if q = 1 then hi else if q = 2 then sI N 121 else if q = 3 then N 141 else if q = 4 then N 142 else if q = 5 then N 143 else if q = 6 then cm else if q = 7 then lm else if q = 8 then sc else if q = 9 then qu else if q = 10 then fp else -1) from by simp_all) rfl
  by_cases c_2 : q = 1
  · refine r_tabIn C 65 (v := 1) dX12_count_1 c_2 (by omega) rfl rfl ?_
    refine r_aload_n C dX12_count_65 0 rfl ?_
    refine gf_X12_47 C dX12_count_66 0 rfl rfl ?_
    exact e_i C () dX12_count_69 (show hi = (if q = 0 then wi else if q = 1 then hi else if q = 2 then sI N 121 else if q = 3 then N 141 else if q = 4 then N 142 else if q = 5 then N 143 else if q = 6 then cm else if q = 7 then lm else if q = 8 then sc else if q = 9 then qu else if q = 10 then fp else -1) from by simp_all) rfl
  by_cases c_3 : q = 2
  · refine r_tabIn C 70 (v := 2) dX12_count_1 c_3 (by omega) rfl rfl ?_
    refine r_aload_n C dX12_count_70 0 rfl ?_
    refine k_Vi C kv_X12_114 (fun sz => c_X12_edges l g hM wi hi mN mC cm ca mL sc qu fp mT lm nw nh nr mF mR mD mA ii wo wd oe mK rm mH cn N sz) dX12_count_71 rfl rfl rfl ⟨rfl, rfl⟩ 0 11 rfl rfl rfl [0, 1] rfl rfl (fun _ => rfl) (ws' := fun u_ => [(hM, oB 11 [vi wi, vi hi, .ref mN, .ref mC, vi cm, vi ca, .ref mL, vi sc, vi qu, vi fp, .ref mT, vi lm, vi nw, vi nh, vi nr, .ref mF, .ref mR, .ref mD, .ref mA, vi ii, vi wo, vi wd, vi oe, .ref mK, vi rm, .ref mH, vi cn]), (mN, aI g 145 N)]) (fun _ => rfl) (fun r_71 u_ p_71 => ?_)
    have p_71 : r_71 = sI N 121 := p_71
    exact e_i C () dX12_count_74 (show r_71 = (if q = 0 then wi else if q = 1 then hi else if q = 2 then sI N 121 else if q = 3 then N 141 else if q = 4 then N 142 else if q = 5 then N 143 else if q = 6 then cm else if q = 7 then lm else if q = 8 then sc else if q = 9 then qu else if q = 10 then fp else -1) from by simp_all) rfl
  by_cases c_4 : q = 3
  · refine r_tabIn C 75 (v := 3) dX12_count_1 c_4 (by omega) rfl rfl ?_
    refine r_aload_n C dX12_count_75 0 rfl ?_
    refine gf_X12_7 C dX12_count_76 0 rfl rfl ?_
    refine r_sipush C dX12_count_79 rfl ?_
    refine r_iald C dX12_count_82 1 rfl rfl (by omega) ?_
    exact e_i C () dX12_count_83 (show (N 141) = (if q = 0 then wi else if q = 1 then hi else if q = 2 then sI N 121 else if q = 3 then N 141 else if q = 4 then N 142 else if q = 5 then N 143 else if q = 6 then cm else if q = 7 then lm else if q = 8 then sc else if q = 9 then qu else if q = 10 then fp else -1) from by simp_all) rfl
  by_cases c_5 : q = 4
  · refine r_tabIn C 84 (v := 4) dX12_count_1 c_5 (by omega) rfl rfl ?_
    refine r_aload_n C dX12_count_84 0 rfl ?_
    refine gf_X12_7 C dX12_count_85 0 rfl rfl ?_
    refine r_sipush C dX12_count_88 rfl ?_
    refine r_iald C dX12_count_91 1 rfl rfl (by omega) ?_
    exact e_i C () dX12_count_92 (show (N 142) = (if q = 0 then wi else if q = 1 then hi else if q = 2 then sI N 121 else if q = 3 then N 141 else if q = 4 then N 142 else if q = 5 then N 143 else if q = 6 then cm else if q = 7 then lm else if q = 8 then sc else if q = 9 then qu else if q = 10 then fp else -1) from by simp_all) rfl
  by_cases c_6 : q = 5
  · refine r_tabIn C 93 (v := 5) dX12_count_1 c_6 (by omega) rfl rfl ?_
    refine r_aload_n C dX12_count_93 0 rfl ?_
    refine gf_X12_7 C dX12_count_94 0 rfl rfl ?_
    refine r_sipush C dX12_count_97 rfl ?_
    refine r_iald C dX12_count_100 1 rfl rfl (by omega) ?_
    exact e_i C () dX12_count_101 (show (N 143) = (if q = 0 then wi else if q = 1 then hi else if q = 2 then sI N 121 else if q = 3 then N 141 else if q = 4 then N 142 else if q = 5 then N 143 else if q = 6 then cm else if q = 7 then lm else if q = 8 then sc else if q = 9 then qu else if q = 10 then fp else -1) from by simp_all) rfl
  by_cases c_7 : q = 6
  · refine r_tabIn C 102 (v := 6) dX12_count_1 c_7 (by omega) rfl rfl ?_
    refine r_aload_n C dX12_count_102 0 rfl ?_
    refine gf_X12_105 C dX12_count_103 0 rfl rfl ?_
    exact e_i C () dX12_count_106 (show cm = (if q = 0 then wi else if q = 1 then hi else if q = 2 then sI N 121 else if q = 3 then N 141 else if q = 4 then N 142 else if q = 5 then N 143 else if q = 6 then cm else if q = 7 then lm else if q = 8 then sc else if q = 9 then qu else if q = 10 then fp else -1) from by simp_all) rfl
  by_cases c_8 : q = 7
  · refine r_tabIn C 107 (v := 7) dX12_count_1 c_8 (by omega) rfl rfl ?_
    refine r_aload_n C dX12_count_107 0 rfl ?_
    refine gf_X12_62 C dX12_count_108 0 rfl rfl ?_
    exact e_i C () dX12_count_111 (show lm = (if q = 0 then wi else if q = 1 then hi else if q = 2 then sI N 121 else if q = 3 then N 141 else if q = 4 then N 142 else if q = 5 then N 143 else if q = 6 then cm else if q = 7 then lm else if q = 8 then sc else if q = 9 then qu else if q = 10 then fp else -1) from by simp_all) rfl
  by_cases c_9 : q = 8
  · refine r_tabIn C 112 (v := 8) dX12_count_1 c_9 (by omega) rfl rfl ?_
    refine r_aload_n C dX12_count_112 0 rfl ?_
    refine gf_X12_19 C dX12_count_113 0 rfl rfl ?_
    exact e_i C () dX12_count_116 (show sc = (if q = 0 then wi else if q = 1 then hi else if q = 2 then sI N 121 else if q = 3 then N 141 else if q = 4 then N 142 else if q = 5 then N 143 else if q = 6 then cm else if q = 7 then lm else if q = 8 then sc else if q = 9 then qu else if q = 10 then fp else -1) from by simp_all) rfl
  by_cases c_10 : q = 9
  · refine r_tabIn C 117 (v := 9) dX12_count_1 c_10 (by omega) rfl rfl ?_
    refine r_aload_n C dX12_count_117 0 rfl ?_
    refine gf_X12_108 C dX12_count_118 0 rfl rfl ?_
    exact e_i C () dX12_count_121 (show qu = (if q = 0 then wi else if q = 1 then hi else if q = 2 then sI N 121 else if q = 3 then N 141 else if q = 4 then N 142 else if q = 5 then N 143 else if q = 6 then cm else if q = 7 then lm else if q = 8 then sc else if q = 9 then qu else if q = 10 then fp else -1) from by simp_all) rfl
  by_cases c_11 : q = 10
  · refine r_tabIn C 122 (v := 10) dX12_count_1 c_11 (by omega) rfl rfl ?_
    refine r_aload_n C dX12_count_122 0 rfl ?_
    refine gf_X12_111 C dX12_count_123 0 rfl rfl ?_
    exact e_i C () dX12_count_126 (show fp = (if q = 0 then wi else if q = 1 then hi else if q = 2 then sI N 121 else if q = 3 then N 141 else if q = 4 then N 142 else if q = 5 then N 143 else if q = 6 then cm else if q = 7 then lm else if q = 8 then sc else if q = 9 then qu else if q = 10 then fp else -1) from by simp_all) rfl
  refine r_tabOut C 127 dX12_count_1 (by omega) (by omega) rfl ?_
  refine r_iconst C dX12_count_127 ?_
  exact e_i C () dX12_count_128 (show (-1) = (if q = 0 then wi else if q = 1 then hi else if q = 2 then sI N 121 else if q = 3 then N 141 else if q = 4 then N 142 else if q = 5 then N 143 else if q = 6 then cm else if q = 7 then lm else if q = 8 then sc else if q = 9 then qu else if q = 10 then fp else -1) from by simp_all) rfl
