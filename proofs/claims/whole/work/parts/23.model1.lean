theorem sgO_b {v : Int} (h : 0 ≤ v ∧ v ≤ 65535) : -4 ≤ sgO v ∧ sgO v ≤ 11 := by
  unfold sgO
  omega
set_option maxHeartbeats 1000000 in
set_option maxRecDepth 100000 in
theorem c_X12_in (l : Launch) (g : Gx) (x : Int) (lo : Int) (hh : Int) (bbx : -2147483648 ≤ x ∧ x ≤ 2147483647) (bblo : -2147483648 ≤ lo ∧ lo ≤ 2147483647) (bbhh : -2147483648 ≤ hh ∧ hh ≤ 2147483647) (sz : Nat) : Met l yX12_in (.code yX12_in cX12_in 3 (some .boolean) :: wsL_law) { frames := 0, cells := 0, slots := 0, locals := 0 } (PR g [vi x, vi lo, vi hh] [] sz) (PI (S := Unit) g (fun r u_ => (r = 1 ∧ lo ≤ x ∧ x ≤ hh) ∨ (r = 0 ∧ ¬ (lo ≤ x ∧ x ≤ hh))) (fun u_ => []) [] sz) 0 0 (va_A [] sz) := by
  refine meet (own := RX12) rfl (plainFor_of_name (by decide +kernel)) rfl (fun p_ e_ s_ m_ args_ below_ meth_ c_ C hnm => ?_)
  refine r_at (ws' := []) (lv' := [(0, vi x), (1, vi lo), (2, vi hh)]) rfl rfl ?_
  refine r_iload_n C dX12_in_0 0 rfl ?_
  refine r_iload_n C dX12_in_1 1 rfl ?_
  refine r_icmp_lt C 14 dX12_in_2 rfl (by omega) (fun c_1 => ?_) (fun c_1 => ?_)
  · skip
    refine r_iconst C dX12_in_14 ?_
    exact e_z C () dX12_in_15 (by omega) (show (0 = 1 ∧ lo ≤ x ∧ x ≤ hh) ∨ (0 = 0 ∧ ¬ (lo ≤ x ∧ x ≤ hh)) from by omega) rfl
  · skip
    refine r_iload_n C dX12_in_5 0 rfl ?_
    refine r_iload_n C dX12_in_6 2 rfl ?_
    refine r_icmp_gt C 14 dX12_in_7 rfl (by omega) (fun c_2 => ?_) (fun c_2 => ?_)
    · skip
      refine r_iconst C dX12_in_14 ?_
      exact e_z C () dX12_in_15 (by omega) (show (0 = 1 ∧ lo ≤ x ∧ x ≤ hh) ∨ (0 = 0 ∧ ¬ (lo ≤ x ∧ x ≤ hh)) from by omega) rfl
    · skip
      refine r_iconst C dX12_in_10 ?_
      refine r_goto C 15 dX12_in_11 rfl ?_
      exact e_z C () dX12_in_15 (by omega) (show (1 = 1 ∧ lo ≤ x ∧ x ≤ hh) ∨ (1 = 0 ∧ ¬ (lo ≤ x ∧ x ≤ hh)) from by omega) rfl
set_option maxHeartbeats 1000000 in
set_option maxRecDepth 100000 in
theorem c_X12_write (l : Launch) (g : Gx) (hM : Nat) (wi : Int) (hi : Int) (mN : Nat) (mC : Nat) (cm : Int) (ca : Int) (mL : Nat) (sc : Int) (qu : Int) (fp : Int) (mT : Nat) (lm : Int) (nw : Int) (nh : Int) (nr : Int) (mF : Nat) (mR : Nat) (mD : Nat) (mA : Nat) (ii : Int) (wo : Int) (wd : Int) (oe : Int) (mK : Nat) (rm : Int) (mH : Nat) (cn : Int) (Tx : Int → Int) (x : Int) (kl : 0 ≤ lm ∧ lm ≤ 200) (bbx : -2147483648 ≤ x ∧ x ≤ 2147483647) (sz : Nat) : Met l yX12_write (.code yX12_write cX12_write 2 (some .int) :: wsL_law) { frames := 1, cells := 0, slots := 0, locals := 22 } (PR g [.ref hM, vi x] [(hM, oB 11 [vi wi, vi hi, .ref mN, .ref mC, vi cm, vi ca, .ref mL, vi sc, vi qu, vi fp, .ref mT, vi lm, vi nw, vi nh, vi nr, .ref mF, .ref mR, .ref mD, .ref mA, vi ii, vi wo, vi wd, vi oe, .ref mK, vi rm, .ref mH, vi cn]), (mT, aI g 200 Tx)] sz) (PI (S := (Int → Int) × Int) g (fun r u_ => (¬ (32 ≤ x ∧ x ≤ 126) ∧ r = -1 ∧ u_.1 = Tx ∧ u_.2 = lm) ∨ (32 ≤ x ∧ x ≤ 126 ∧ lm = 200 ∧ r = -3 ∧ u_.1 = Tx ∧ u_.2 = lm) ∨ (32 ≤ x ∧ x ≤ 126 ∧ lm < 200 ∧ r = lm + 1 ∧ u_.1 = zU Tx lm x ∧ u_.2 = lm + 1)) (fun u_ => [(hM, oB 11 [vi wi, vi hi, .ref mN, .ref mC, vi cm, vi ca, .ref mL, vi sc, vi qu, vi fp, .ref mT, vi u_.2, vi nw, vi nh, vi nr, .ref mF, .ref mR, .ref mD, .ref mA, vi ii, vi wo, vi wd, vi oe, .ref mK, vi rm, .ref mH, vi cn]), (mT, aI g 200 u_.1)]) [(hM, oB 11 [vi wi, vi hi, .ref mN, .ref mC, vi cm, vi ca, .ref mL, vi sc, vi qu, vi fp, .ref mT, vi lm, vi nw, vi nh, vi nr, .ref mF, .ref mR, .ref mD, .ref mA, vi ii, vi wo, vi wd, vi oe, .ref mK, vi rm, .ref mH, vi cn]), (mT, aI g 200 Tx)] sz) 0 0 (va_A [(hM, oB 11 [vi wi, vi hi, .ref mN, .ref mC, vi cm, vi ca, .ref mL, vi sc, vi qu, vi fp, .ref mT, vi lm, vi nw, vi nh, vi nr, .ref mF, .ref mR, .ref mD, .ref mA, vi ii, vi wo, vi wd, vi oe, .ref mK, vi rm, .ref mH, vi cn]), (mT, aI g 200 Tx)] sz) := by
  refine meet (own := RX12) rfl (plainFor_of_name (by decide +kernel)) rfl (fun p_ e_ s_ m_ args_ below_ meth_ c_ C hnm => ?_)
  refine r_at (ws' := [(hM, oB 11 [vi wi, vi hi, .ref mN, .ref mC, vi cm, vi ca, .ref mL, vi sc, vi qu, vi fp, .ref mT, vi lm, vi nw, vi nh, vi nr, .ref mF, .ref mR, .ref mD, .ref mA, vi ii, vi wo, vi wd, vi oe, .ref mK, vi rm, .ref mH, vi cn]), (mT, aI g 200 Tx)]) (lv' := [(0, .ref hM), (1, vi x)]) rfl rfl ?_
  refine r_iload_n C dX12_write_0 1 rfl ?_
  refine r_bipush C dX12_write_1 rfl ?_
  refine r_bipush C dX12_write_3 rfl ?_
  refine k_Si C ks_X12_58 (fun sz => c_X12_in l g x 32 126 (by omega) (by omega) (by omega) sz) dX12_write_5 rfl rfl rfl ⟨rfl, rfl⟩ [] rfl rfl (fun _ => rfl) (ws' := fun u_ => [(hM, oB 11 [vi wi, vi hi, .ref mN, .ref mC, vi cm, vi ca, .ref mL, vi sc, vi qu, vi fp, .ref mT, vi lm, vi nw, vi nh, vi nr, .ref mF, .ref mR, .ref mD, .ref mA, vi ii, vi wo, vi wd, vi oe, .ref mK, vi rm, .ref mH, vi cn]), (mT, aI g 200 Tx)]) (fun _ => rfl) (fun r_5 u_ p_5 => ?_)
  have p_5 : (r_5 = 1 ∧ 32 ≤ x ∧ x ≤ 126) ∨ (r_5 = 0 ∧ ¬ (32 ≤ x ∧ x ≤ 126)) := p_5
  refine r_if_ne C 13 dX12_write_8 rfl (by omega) (fun c_1 => ?_) (fun c_1 => ?_)
  · skip
    refine r_aload_n C dX12_write_13 0 rfl ?_
    refine gf_X12_62 C dX12_write_14 0 rfl rfl ?_
    refine r_sipush C dX12_write_17 rfl ?_
    refine r_icmp_ne C 26 dX12_write_20 rfl (by omega) (fun c_2 => ?_) (fun c_2 => ?_)
    · skip
      refine r_aload_n C dX12_write_26 0 rfl ?_
      refine gf_X12_23 C dX12_write_27 0 rfl rfl ?_
      refine r_aload_n C dX12_write_30 0 rfl ?_
      refine gf_X12_62 C dX12_write_31 0 rfl rfl ?_
      refine r_iload_n C dX12_write_34 1 rfl ?_
      refine r_iast C (ws' := [(hM, oB 11 [vi wi, vi hi, .ref mN, .ref mC, vi cm, vi ca, .ref mL, vi sc, vi qu, vi fp, .ref mT, vi lm, vi nw, vi nh, vi nr, .ref mF, .ref mR, .ref mD, .ref mA, vi ii, vi wo, vi wd, vi oe, .ref mK, vi rm, .ref mH, vi cn]), (mT, aI g 200 (zU Tx lm x))]) dX12_write_35 1 rfl rfl (by omega) rfl ?_
      refine r_aload_n C dX12_write_36 0 rfl ?_
      refine r_dup C dX12_write_37 rfl ?_
      refine gf_X12_62 C dX12_write_38 0 rfl rfl ?_
      refine r_iconst C dX12_write_41 ?_
      refine r_iadd C dX12_write_42 ?_
      refine pf_X12_62 C (ws' := [(hM, oB 11 [vi wi, vi hi, .ref mN, .ref mC, vi cm, vi ca, .ref mL, vi sc, vi qu, vi fp, .ref mT, vi (lm + 1), vi nw, vi nh, vi nr, .ref mF, .ref mR, .ref mD, .ref mA, vi ii, vi wo, vi wd, vi oe, .ref mK, vi rm, .ref mH, vi cn]), (mT, aI g 200 (zU Tx lm x))]) dX12_write_43 0 rfl (Nat.le_of_ble_eq_true rfl) rfl ?_
      refine r_aload_n C dX12_write_46 0 rfl ?_
      refine gf_X12_62 C dX12_write_47 0 rfl rfl ?_
      exact e_i C (zU Tx lm x, lm + 1) dX12_write_50 (show (¬ (32 ≤ x ∧ x ≤ 126) ∧ (lm + 1) = -1 ∧ (zU Tx lm x) = Tx ∧ (lm + 1) = lm) ∨ (32 ≤ x ∧ x ≤ 126 ∧ lm = 200 ∧ (lm + 1) = -3 ∧ (zU Tx lm x) = Tx ∧ (lm + 1) = lm) ∨ (32 ≤ x ∧ x ≤ 126 ∧ lm < 200 ∧ (lm + 1) = lm + 1 ∧ (zU Tx lm x) = zU Tx lm x ∧ (lm + 1) = lm + 1) from Or.inr (Or.inr ⟨by omega, by omega, by omega, rfl, rfl, rfl⟩)) rfl
    · skip
      refine r_bipush C dX12_write_23 rfl ?_
      exact e_i C (Tx, lm) dX12_write_25 (show (¬ (32 ≤ x ∧ x ≤ 126) ∧ (-3) = -1 ∧ Tx = Tx ∧ lm = lm) ∨ (32 ≤ x ∧ x ≤ 126 ∧ lm = 200 ∧ (-3) = -3 ∧ Tx = Tx ∧ lm = lm) ∨ (32 ≤ x ∧ x ≤ 126 ∧ lm < 200 ∧ (-3) = lm + 1 ∧ Tx = zU Tx lm x ∧ lm = lm + 1) from Or.inr (Or.inl ⟨by omega, by omega, by omega, rfl, rfl, rfl⟩)) rfl
  · skip
    refine r_iconst C dX12_write_11 ?_
    exact e_i C (Tx, lm) dX12_write_12 (show (¬ (32 ≤ x ∧ x ≤ 126) ∧ (-1) = -1 ∧ Tx = Tx ∧ lm = lm) ∨ (32 ≤ x ∧ x ≤ 126 ∧ lm = 200 ∧ (-1) = -3 ∧ Tx = Tx ∧ lm = lm) ∨ (32 ≤ x ∧ x ≤ 126 ∧ lm < 200 ∧ (-1) = lm + 1 ∧ Tx = zU Tx lm x ∧ lm = lm + 1) from Or.inl ⟨by omega, rfl, rfl, rfl⟩) rfl
set_option maxHeartbeats 1000000 in
set_option maxRecDepth 100000 in
theorem c_X12_wipe (l : Launch) (g : Gx) (hM : Nat) (wi : Int) (hi : Int) (mN : Nat) (mC : Nat) (cm : Int) (ca : Int) (mL : Nat) (sc : Int) (qu : Int) (fp : Int) (mT : Nat) (lm : Int) (nw : Int) (nh : Int) (nr : Int) (mF : Nat) (mR : Nat) (mD : Nat) (mA : Nat) (ii : Int) (wo : Int) (wd : Int) (oe : Int) (mK : Nat) (rm : Int) (mH : Nat) (cn : Int) (sz : Nat) : Met l yX12_wipe (.code yX12_wipe cX12_wipe 2 (some .int) :: wsL_law) { frames := 0, cells := 0, slots := 0, locals := 0 } (PR g [.ref hM] [(hM, oB 11 [vi wi, vi hi, .ref mN, .ref mC, vi cm, vi ca, .ref mL, vi sc, vi qu, vi fp, .ref mT, vi lm, vi nw, vi nh, vi nr, .ref mF, .ref mR, .ref mD, .ref mA, vi ii, vi wo, vi wd, vi oe, .ref mK, vi rm, .ref mH, vi cn])] sz) (PI (S := Unit) g (fun r u_ => r = lm) (fun u_ => [(hM, oB 11 [vi wi, vi hi, .ref mN, .ref mC, vi cm, vi ca, .ref mL, vi sc, vi qu, vi fp, .ref mT, vi 0, vi nw, vi nh, vi nr, .ref mF, .ref mR, .ref mD, .ref mA, vi ii, vi wo, vi wd, vi oe, .ref mK, vi rm, .ref mH, vi cn])]) [(hM, oB 11 [vi wi, vi hi, .ref mN, .ref mC, vi cm, vi ca, .ref mL, vi sc, vi qu, vi fp, .ref mT, vi lm, vi nw, vi nh, vi nr, .ref mF, .ref mR, .ref mD, .ref mA, vi ii, vi wo, vi wd, vi oe, .ref mK, vi rm, .ref mH, vi cn])] sz) 0 0 (va_A [(hM, oB 11 [vi wi, vi hi, .ref mN, .ref mC, vi cm, vi ca, .ref mL, vi sc, vi qu, vi fp, .ref mT, vi lm, vi nw, vi nh, vi nr, .ref mF, .ref mR, .ref mD, .ref mA, vi ii, vi wo, vi wd, vi oe, .ref mK, vi rm, .ref mH, vi cn])] sz) := by
  refine meet (own := RX12) rfl (plainFor_of_name (by decide +kernel)) rfl (fun p_ e_ s_ m_ args_ below_ meth_ c_ C hnm => ?_)
  refine r_at (ws' := [(hM, oB 11 [vi wi, vi hi, .ref mN, .ref mC, vi cm, vi ca, .ref mL, vi sc, vi qu, vi fp, .ref mT, vi lm, vi nw, vi nh, vi nr, .ref mF, .ref mR, .ref mD, .ref mA, vi ii, vi wo, vi wd, vi oe, .ref mK, vi rm, .ref mH, vi cn])]) (lv' := [(0, .ref hM)]) rfl rfl ?_
  refine r_aload_n C dX12_wipe_0 0 rfl ?_
  refine gf_X12_62 C dX12_wipe_1 0 rfl rfl ?_
  refine r_istore_n C (lv' := [(1, vi lm), (0, .ref hM)]) dX12_wipe_4 rfl rfl ?_
  refine r_aload_n C dX12_wipe_5 1 rfl ?_
  refine r_iconst C dX12_wipe_6 ?_
  refine pf_X12_62 C (ws' := [(hM, oB 11 [vi wi, vi hi, .ref mN, .ref mC, vi cm, vi ca, .ref mL, vi sc, vi qu, vi fp, .ref mT, vi 0, vi nw, vi nh, vi nr, .ref mF, .ref mR, .ref mD, .ref mA, vi ii, vi wo, vi wd, vi oe, .ref mK, vi rm, .ref mH, vi cn])]) dX12_wipe_7 0 rfl (Nat.le_of_ble_eq_true rfl) rfl ?_
  refine r_iload_n C dX12_wipe_10 0 rfl ?_
  exact e_i C () dX12_wipe_11 (show lm = lm from rfl) rfl
set_option maxHeartbeats 1000000 in
set_option maxRecDepth 100000 in
theorem c_X12_letter (l : Launch) (g : Gx) (hM : Nat) (wi : Int) (hi : Int) (mN : Nat) (mC : Nat) (cm : Int) (ca : Int) (mL : Nat) (sc : Int) (qu : Int) (fp : Int) (mT : Nat) (lm : Int) (nw : Int) (nh : Int) (nr : Int) (mF : Nat) (mR : Nat) (mD : Nat) (mA : Nat) (ii : Int) (wo : Int) (wd : Int) (oe : Int) (mK : Nat) (rm : Int) (mH : Nat) (cn : Int) (Tx : Int → Int) (k : Int) (kl : 0 ≤ lm ∧ lm ≤ 200) (kk : 0 ≤ k ∧ k ≤ 1000) (sz : Nat) : Met l yX12_letter (.code yX12_letter cX12_letter 2 (some .int) :: wsL_law) { frames := 0, cells := 0, slots := 0, locals := 0 } (PR g [.ref hM, vi k] [(hM, oB 11 [vi wi, vi hi, .ref mN, .ref mC, vi cm, vi ca, .ref mL, vi sc, vi qu, vi fp, .ref mT, vi lm, vi nw, vi nh, vi nr, .ref mF, .ref mR, .ref mD, .ref mA, vi ii, vi wo, vi wd, vi oe, .ref mK, vi rm, .ref mH, vi cn]), (mT, aI g 200 Tx)] sz) (PI (S := Unit) g (fun r u_ => r = ltr Tx lm k) (fun u_ => [(hM, oB 11 [vi wi, vi hi, .ref mN, .ref mC, vi cm, vi ca, .ref mL, vi sc, vi qu, vi fp, .ref mT, vi lm, vi nw, vi nh, vi nr, .ref mF, .ref mR, .ref mD, .ref mA, vi ii, vi wo, vi wd, vi oe, .ref mK, vi rm, .ref mH, vi cn]), (mT, aI g 200 Tx)]) [(hM, oB 11 [vi wi, vi hi, .ref mN, .ref mC, vi cm, vi ca, .ref mL, vi sc, vi qu, vi fp, .ref mT, vi lm, vi nw, vi nh, vi nr, .ref mF, .ref mR, .ref mD, .ref mA, vi ii, vi wo, vi wd, vi oe, .ref mK, vi rm, .ref mH, vi cn]), (mT, aI g 200 Tx)] sz) 0 0 (va_A [(hM, oB 11 [vi wi, vi hi, .ref mN, .ref mC, vi cm, vi ca, .ref mL, vi sc, vi qu, vi fp, .ref mT, vi lm, vi nw, vi nh, vi nr, .ref mF, .ref mR, .ref mD, .ref mA, vi ii, vi wo, vi wd, vi oe, .ref mK, vi rm, .ref mH, vi cn]), (mT, aI g 200 Tx)] sz) := by
  refine meet (own := RX12) rfl (plainFor_of_name (by decide +kernel)) rfl (fun p_ e_ s_ m_ args_ below_ meth_ c_ C hnm => ?_)
  refine r_at (ws' := [(hM, oB 11 [vi wi, vi hi, .ref mN, .ref mC, vi cm, vi ca, .ref mL, vi sc, vi qu, vi fp, .ref mT, vi lm, vi nw, vi nh, vi nr, .ref mF, .ref mR, .ref mD, .ref mA, vi ii, vi wo, vi wd, vi oe, .ref mK, vi rm, .ref mH, vi cn]), (mT, aI g 200 Tx)]) (lv' := [(0, .ref hM), (1, vi k)]) rfl rfl ?_
  refine r_iload_n C dX12_letter_0 1 rfl ?_
  refine r_aload_n C dX12_letter_1 0 rfl ?_
  refine gf_X12_62 C dX12_letter_2 0 rfl rfl ?_
  refine r_icmp_ge C 17 dX12_letter_5 rfl (by omega) (fun c_1 => ?_) (fun c_1 => ?_)
  · skip
    refine r_iconst C dX12_letter_17 ?_
    exact e_i C () dX12_letter_18 (show 0 = ltr Tx lm k from by unfold ltr; first | rw [if_pos (by omega)] | rw [if_neg (by omega)]) rfl
  · skip
    refine r_aload_n C dX12_letter_8 0 rfl ?_
    refine gf_X12_23 C dX12_letter_9 0 rfl rfl ?_
    refine r_iload_n C dX12_letter_12 1 rfl ?_
    refine r_iald C dX12_letter_13 1 rfl rfl (by omega) ?_
    refine r_goto C 18 dX12_letter_14 rfl ?_
    exact e_i C () dX12_letter_18 (show (Tx k) = ltr Tx lm k from by unfold ltr; first | rw [if_pos (by omega)] | rw [if_neg (by omega)]) rfl
set_option maxHeartbeats 1000000 in
set_option maxRecDepth 100000 in
theorem c_X12_signOf (l : Launch) (g : Gx) (v : Int) (bbv : -2147483648 ≤ v ∧ v ≤ 2147483647) (sz : Nat) : Met l yX12_signOf (.code yX12_signOf cX12_signOf 1 (some .int) :: wsL_law) { frames := 1, cells := 0, slots := 0, locals := 22 } (PR g [vi v] [] sz) (PI (S := Unit) g (fun r u_ => r = sgO v) (fun u_ => []) [] sz) 0 0 (va_A [] sz) := by
  refine meet (own := RX12) rfl (plainFor_of_name (by decide +kernel)) rfl (fun p_ e_ s_ m_ args_ below_ meth_ c_ C hnm => ?_)
  refine r_at (ws' := []) (lv' := [(0, vi v)]) rfl rfl ?_
  refine r_iload_n C dX12_signOf_0 0 rfl ?_
  refine r_bipush C dX12_signOf_1 rfl ?_
  refine r_bipush C dX12_signOf_3 rfl ?_
  refine k_Si C ks_X12_58 (fun sz => c_X12_in l g v 48 57 (by omega) (by omega) (by omega) sz) dX12_signOf_5 rfl rfl rfl ⟨rfl, rfl⟩ [] rfl rfl (fun _ => rfl) (ws' := fun u_ => []) (fun _ => rfl) (fun r_5 u_ p_5 => ?_)
  have p_5 : (r_5 = 1 ∧ 48 ≤ v ∧ v ≤ 57) ∨ (r_5 = 0 ∧ ¬ (48 ≤ v ∧ v ≤ 57)) := p_5
  refine r_if_eq C 18 dX12_signOf_8 rfl (by omega) (fun c_1 => ?_) (fun c_1 => ?_)
  · skip
    refine r_iload_n C dX12_signOf_18 0 rfl ?_
    refine r_bipush C dX12_signOf_19 rfl ?_
    refine r_icmp_ne C 29 dX12_signOf_21 rfl (by omega) (fun c_2 => ?_) (fun c_2 => ?_)
    · skip
      refine r_iload_n C dX12_signOf_29 0 rfl ?_
      refine r_bipush C dX12_signOf_30 rfl ?_
      refine r_icmp_ne C 40 dX12_signOf_32 rfl (by omega) (fun c_3 => ?_) (fun c_3 => ?_)
      · skip
        refine r_bipush C dX12_signOf_40 rfl ?_
        exact e_i C () dX12_signOf_42 (show (-4) = sgO v from by unfold sgO; omega) rfl
      · skip
        refine r_bipush C dX12_signOf_35 rfl ?_
        refine r_goto C 42 dX12_signOf_37 rfl ?_
        exact e_i C () dX12_signOf_42 (show 11 = sgO v from by unfold sgO; omega) rfl
    · skip
      refine r_bipush C dX12_signOf_24 rfl ?_
      refine r_goto C 42 dX12_signOf_26 rfl ?_
      exact e_i C () dX12_signOf_42 (show 10 = sgO v from by unfold sgO; omega) rfl
  · skip
    refine r_iload_n C dX12_signOf_11 0 rfl ?_
    refine r_bipush C dX12_signOf_12 rfl ?_
    refine r_isub C dX12_signOf_14 ?_
    refine r_goto C 42 dX12_signOf_15 rfl ?_
    exact e_i C () dX12_signOf_42 (show (v - 48) = sgO v from by unfold sgO; omega) rfl
set_option maxHeartbeats 1000000 in
set_option maxRecDepth 100000 in
theorem c_X12_readsGrid (l : Launch) (g : Gx) (hM : Nat) (wi : Int) (hi : Int) (mN : Nat) (mC : Nat) (cm : Int) (ca : Int) (mL : Nat) (sc : Int) (qu : Int) (fp : Int) (mT : Nat) (lm : Int) (nw : Int) (nh : Int) (nr : Int) (mF : Nat) (mR : Nat) (mD : Nat) (mA : Nat) (ii : Int) (wo : Int) (wd : Int) (oe : Int) (mK : Nat) (rm : Int) (mH : Nat) (cn : Int) (Tx : Int → Int) (k : Int) (kl : 0 ≤ lm ∧ lm ≤ 200) (kT : ∀ k : Int, 0 ≤ k → k < 200 → 0 ≤ Tx k ∧ Tx k ≤ 65535) (kk : 0 ≤ k ∧ k ≤ 200) (sz : Nat) : Met l yX12_readsGrid (.code yX12_readsGrid cX12_readsGrid 2 (some .boolean) :: wsL_law) { frames := 2, cells := 0, slots := 0, locals := 42 } (PR g [.ref hM, vi k] [(hM, oB 11 [vi wi, vi hi, .ref mN, .ref mC, vi cm, vi ca, .ref mL, vi sc, vi qu, vi fp, .ref mT, vi lm, vi nw, vi nh, vi nr, .ref mF, .ref mR, .ref mD, .ref mA, vi ii, vi wo, vi wd, vi oe, .ref mK, vi rm, .ref mH, vi cn]), (mT, aI g 200 Tx)] sz) (PI (S := Unit) g (fun r u_ => (r = 1 ∧ k = 0 ∧ (4 ≤ sgO (ltr Tx lm (k + 1)) ∧ sgO (ltr Tx lm (k + 1)) ≤ 11) ∧ (4 ≤ sgO (ltr Tx lm (k + 2)) ∧ sgO (ltr Tx lm (k + 2)) ≤ 11)) ∨ (r = 0 ∧ ¬ (k = 0 ∧ (4 ≤ sgO (ltr Tx lm (k + 1)) ∧ sgO (ltr Tx lm (k + 1)) ≤ 11) ∧ (4 ≤ sgO (ltr Tx lm (k + 2)) ∧ sgO (ltr Tx lm (k + 2)) ≤ 11)))) (fun u_ => [(hM, oB 11 [vi wi, vi hi, .ref mN, .ref mC, vi cm, vi ca, .ref mL, vi sc, vi qu, vi fp, .ref mT, vi lm, vi (sgO (ltr Tx lm (k + 1))), vi (sgO (ltr Tx lm (k + 2))), vi nr, .ref mF, .ref mR, .ref mD, .ref mA, vi ii, vi wo, vi wd, vi oe, .ref mK, vi rm, .ref mH, vi cn]), (mT, aI g 200 Tx)]) [(hM, oB 11 [vi wi, vi hi, .ref mN, .ref mC, vi cm, vi ca, .ref mL, vi sc, vi qu, vi fp, .ref mT, vi lm, vi nw, vi nh, vi nr, .ref mF, .ref mR, .ref mD, .ref mA, vi ii, vi wo, vi wd, vi oe, .ref mK, vi rm, .ref mH, vi cn]), (mT, aI g 200 Tx)] sz) 0 0 (va_A [(hM, oB 11 [vi wi, vi hi, .ref mN, .ref mC, vi cm, vi ca, .ref mL, vi sc, vi qu, vi fp, .ref mT, vi lm, vi nw, vi nh, vi nr, .ref mF, .ref mR, .ref mD, .ref mA, vi ii, vi wo, vi wd, vi oe, .ref mK, vi rm, .ref mH, vi cn]), (mT, aI g 200 Tx)] sz) := by
  refine meet (own := RX12) rfl (plainFor_of_name (by decide +kernel)) rfl (fun p_ e_ s_ m_ args_ below_ meth_ c_ C hnm => ?_)
  refine r_at (ws' := [(hM, oB 11 [vi wi, vi hi, .ref mN, .ref mC, vi cm, vi ca, .ref mL, vi sc, vi qu, vi fp, .ref mT, vi lm, vi nw, vi nh, vi nr, .ref mF, .ref mR, .ref mD, .ref mA, vi ii, vi wo, vi wd, vi oe, .ref mK, vi rm, .ref mH, vi cn]), (mT, aI g 200 Tx)]) (lv' := [(0, .ref hM), (1, vi k)]) rfl rfl ?_
  have hlb : ∀ j : Int, 0 ≤ ltr Tx lm j ∧ ltr Tx lm j ≤ 65535 := fun j => by unfold ltr; split; exact kT j (by omega) (by omega); omega
  have lb1 := hlb (k + 1)
  have lb2 := hlb (k + 2)
  have sb1 := sgO_b lb1
  have sb2 := sgO_b lb2
  refine r_aload_n C dX12_readsGrid_0 0 rfl ?_
  refine r_aload_n C dX12_readsGrid_1 0 rfl ?_
  refine r_iload_n C dX12_readsGrid_2 1 rfl ?_
  refine r_iconst C dX12_readsGrid_3 ?_
  refine r_iadd C dX12_readsGrid_4 ?_
  refine k_Vi C kv_X12_65 (fun sz => c_X12_letter l g hM wi hi mN mC cm ca mL sc qu fp mT lm nw nh nr mF mR mD mA ii wo wd oe mK rm mH cn Tx (k + 1) (by omega) (by omega) sz) dX12_readsGrid_5 rfl rfl rfl ⟨rfl, rfl⟩ 0 11 rfl rfl rfl [0, 1] rfl rfl (fun _ => rfl) (ws' := fun u_ => [(hM, oB 11 [vi wi, vi hi, .ref mN, .ref mC, vi cm, vi ca, .ref mL, vi sc, vi qu, vi fp, .ref mT, vi lm, vi nw, vi nh, vi nr, .ref mF, .ref mR, .ref mD, .ref mA, vi ii, vi wo, vi wd, vi oe, .ref mK, vi rm, .ref mH, vi cn]), (mT, aI g 200 Tx)]) (fun _ => rfl) (fun r_5 u_ p_5 => ?_)
  have p_5 : r_5 = ltr Tx lm (k + 1) := p_5
  refine r_eq (y := (ltr Tx lm (k + 1))) p_5 ?_
  refine k_Si C ks_X12_69 (fun sz => c_X12_signOf l g (ltr Tx lm (k + 1)) (by omega) sz) dX12_readsGrid_8 rfl rfl rfl ⟨rfl, rfl⟩ [] rfl rfl (fun _ => rfl) (ws' := fun u_ => [(hM, oB 11 [vi wi, vi hi, .ref mN, .ref mC, vi cm, vi ca, .ref mL, vi sc, vi qu, vi fp, .ref mT, vi lm, vi nw, vi nh, vi nr, .ref mF, .ref mR, .ref mD, .ref mA, vi ii, vi wo, vi wd, vi oe, .ref mK, vi rm, .ref mH, vi cn]), (mT, aI g 200 Tx)]) (fun _ => rfl) (fun r_8 u_ p_8 => ?_)
  have p_8 : r_8 = sgO (ltr Tx lm (k + 1)) := p_8
  refine r_eq (y := (sgO (ltr Tx lm (k + 1)))) p_8 ?_
  refine pf_X12_72 C (ws' := [(hM, oB 11 [vi wi, vi hi, .ref mN, .ref mC, vi cm, vi ca, .ref mL, vi sc, vi qu, vi fp, .ref mT, vi lm, vi (sgO (ltr Tx lm (k + 1))), vi nh, vi nr, .ref mF, .ref mR, .ref mD, .ref mA, vi ii, vi wo, vi wd, vi oe, .ref mK, vi rm, .ref mH, vi cn]), (mT, aI g 200 Tx)]) dX12_readsGrid_11 0 rfl (Nat.le_of_ble_eq_true rfl) rfl ?_
  refine r_aload_n C dX12_readsGrid_14 0 rfl ?_
  refine r_aload_n C dX12_readsGrid_15 0 rfl ?_
  refine r_iload_n C dX12_readsGrid_16 1 rfl ?_
  refine r_iconst C dX12_readsGrid_17 ?_
  refine r_iadd C dX12_readsGrid_18 ?_
  refine k_Vi C kv_X12_65 (fun sz => c_X12_letter l g hM wi hi mN mC cm ca mL sc qu fp mT lm (sgO (ltr Tx lm (k + 1))) nh nr mF mR mD mA ii wo wd oe mK rm mH cn Tx (k + 2) (by omega) (by omega) sz) dX12_readsGrid_19 rfl rfl rfl ⟨rfl, rfl⟩ 0 11 rfl rfl rfl [0, 1] rfl rfl (fun _ => rfl) (ws' := fun u_ => [(hM, oB 11 [vi wi, vi hi, .ref mN, .ref mC, vi cm, vi ca, .ref mL, vi sc, vi qu, vi fp, .ref mT, vi lm, vi (sgO (ltr Tx lm (k + 1))), vi nh, vi nr, .ref mF, .ref mR, .ref mD, .ref mA, vi ii, vi wo, vi wd, vi oe, .ref mK, vi rm, .ref mH, vi cn]), (mT, aI g 200 Tx)]) (fun _ => rfl) (fun r_19 u_ p_19 => ?_)
  have p_19 : r_19 = ltr Tx lm (k + 2) := p_19
  refine r_eq (y := (ltr Tx lm (k + 2))) p_19 ?_
  refine k_Si C ks_X12_69 (fun sz => c_X12_signOf l g (ltr Tx lm (k + 2)) (by omega) sz) dX12_readsGrid_22 rfl rfl rfl ⟨rfl, rfl⟩ [] rfl rfl (fun _ => rfl) (ws' := fun u_ => [(hM, oB 11 [vi wi, vi hi, .ref mN, .ref mC, vi cm, vi ca, .ref mL, vi sc, vi qu, vi fp, .ref mT, vi lm, vi (sgO (ltr Tx lm (k + 1))), vi nh, vi nr, .ref mF, .ref mR, .ref mD, .ref mA, vi ii, vi wo, vi wd, vi oe, .ref mK, vi rm, .ref mH, vi cn]), (mT, aI g 200 Tx)]) (fun _ => rfl) (fun r_22 u_ p_22 => ?_)
  have p_22 : r_22 = sgO (ltr Tx lm (k + 2)) := p_22
  refine r_eq (y := (sgO (ltr Tx lm (k + 2)))) p_22 ?_
  refine pf_X12_75 C (ws' := [(hM, oB 11 [vi wi, vi hi, .ref mN, .ref mC, vi cm, vi ca, .ref mL, vi sc, vi qu, vi fp, .ref mT, vi lm, vi (sgO (ltr Tx lm (k + 1))), vi (sgO (ltr Tx lm (k + 2))), vi nr, .ref mF, .ref mR, .ref mD, .ref mA, vi ii, vi wo, vi wd, vi oe, .ref mK, vi rm, .ref mH, vi cn]), (mT, aI g 200 Tx)]) dX12_readsGrid_25 0 rfl (Nat.le_of_ble_eq_true rfl) rfl ?_
  refine r_iload_n C dX12_readsGrid_28 1 rfl ?_
  refine r_if_ne C 62 dX12_readsGrid_29 rfl (by omega) (fun c_1 => ?_) (fun c_1 => ?_)
  · skip
    refine r_iconst C dX12_readsGrid_62 ?_
    exact e_z C () dX12_readsGrid_63 (by omega) (show (0 = 1 ∧ k = 0 ∧ (4 ≤ sgO (ltr Tx lm (k + 1)) ∧ sgO (ltr Tx lm (k + 1)) ≤ 11) ∧ (4 ≤ sgO (ltr Tx lm (k + 2)) ∧ sgO (ltr Tx lm (k + 2)) ≤ 11)) ∨ (0 = 0 ∧ ¬ (k = 0 ∧ (4 ≤ sgO (ltr Tx lm (k + 1)) ∧ sgO (ltr Tx lm (k + 1)) ≤ 11) ∧ (4 ≤ sgO (ltr Tx lm (k + 2)) ∧ sgO (ltr Tx lm (k + 2)) ≤ 11))) from by omega) rfl
  · skip
    refine r_aload_n C dX12_readsGrid_32 0 rfl ?_
    refine gf_X12_72 C dX12_readsGrid_33 0 rfl rfl ?_
    refine r_iconst C dX12_readsGrid_36 ?_
    refine r_bipush C dX12_readsGrid_37 rfl ?_
    refine k_Si C ks_X12_58 (fun sz => c_X12_in l g (sgO (ltr Tx lm (k + 1))) 4 11 (by omega) (by omega) (by omega) sz) dX12_readsGrid_39 rfl rfl rfl ⟨rfl, rfl⟩ [] rfl rfl (fun _ => rfl) (ws' := fun u_ => [(hM, oB 11 [vi wi, vi hi, .ref mN, .ref mC, vi cm, vi ca, .ref mL, vi sc, vi qu, vi fp, .ref mT, vi lm, vi (sgO (ltr Tx lm (k + 1))), vi (sgO (ltr Tx lm (k + 2))), vi nr, .ref mF, .ref mR, .ref mD, .ref mA, vi ii, vi wo, vi wd, vi oe, .ref mK, vi rm, .ref mH, vi cn]), (mT, aI g 200 Tx)]) (fun _ => rfl) (fun r_39 u_ p_39 => ?_)
    have p_39 : (r_39 = 1 ∧ 4 ≤ (sgO (ltr Tx lm (k + 1))) ∧ (sgO (ltr Tx lm (k + 1))) ≤ 11) ∨ (r_39 = 0 ∧ ¬ (4 ≤ (sgO (ltr Tx lm (k + 1))) ∧ (sgO (ltr Tx lm (k + 1))) ≤ 11)) := p_39
    refine r_if_eq C 62 dX12_readsGrid_42 rfl (by omega) (fun c_2 => ?_) (fun c_2 => ?_)
    · skip
      refine r_iconst C dX12_readsGrid_62 ?_
      exact e_z C () dX12_readsGrid_63 (by omega) (show (0 = 1 ∧ k = 0 ∧ (4 ≤ sgO (ltr Tx lm (k + 1)) ∧ sgO (ltr Tx lm (k + 1)) ≤ 11) ∧ (4 ≤ sgO (ltr Tx lm (k + 2)) ∧ sgO (ltr Tx lm (k + 2)) ≤ 11)) ∨ (0 = 0 ∧ ¬ (k = 0 ∧ (4 ≤ sgO (ltr Tx lm (k + 1)) ∧ sgO (ltr Tx lm (k + 1)) ≤ 11) ∧ (4 ≤ sgO (ltr Tx lm (k + 2)) ∧ sgO (ltr Tx lm (k + 2)) ≤ 11))) from by omega) rfl
    · skip
      refine r_aload_n C dX12_readsGrid_45 0 rfl ?_
      refine gf_X12_75 C dX12_readsGrid_46 0 rfl rfl ?_
      refine r_iconst C dX12_readsGrid_49 ?_
      refine r_bipush C dX12_readsGrid_50 rfl ?_
      refine k_Si C ks_X12_58 (fun sz => c_X12_in l g (sgO (ltr Tx lm (k + 2))) 4 11 (by omega) (by omega) (by omega) sz) dX12_readsGrid_52 rfl rfl rfl ⟨rfl, rfl⟩ [] rfl rfl (fun _ => rfl) (ws' := fun u_ => [(hM, oB 11 [vi wi, vi hi, .ref mN, .ref mC, vi cm, vi ca, .ref mL, vi sc, vi qu, vi fp, .ref mT, vi lm, vi (sgO (ltr Tx lm (k + 1))), vi (sgO (ltr Tx lm (k + 2))), vi nr, .ref mF, .ref mR, .ref mD, .ref mA, vi ii, vi wo, vi wd, vi oe, .ref mK, vi rm, .ref mH, vi cn]), (mT, aI g 200 Tx)]) (fun _ => rfl) (fun r_52 u_ p_52 => ?_)
      have p_52 : (r_52 = 1 ∧ 4 ≤ (sgO (ltr Tx lm (k + 2))) ∧ (sgO (ltr Tx lm (k + 2))) ≤ 11) ∨ (r_52 = 0 ∧ ¬ (4 ≤ (sgO (ltr Tx lm (k + 2))) ∧ (sgO (ltr Tx lm (k + 2))) ≤ 11)) := p_52
      refine r_if_eq C 62 dX12_readsGrid_55 rfl (by omega) (fun c_3 => ?_) (fun c_3 => ?_)
      · skip
        refine r_iconst C dX12_readsGrid_62 ?_
        exact e_z C () dX12_readsGrid_63 (by omega) (show (0 = 1 ∧ k = 0 ∧ (4 ≤ sgO (ltr Tx lm (k + 1)) ∧ sgO (ltr Tx lm (k + 1)) ≤ 11) ∧ (4 ≤ sgO (ltr Tx lm (k + 2)) ∧ sgO (ltr Tx lm (k + 2)) ≤ 11)) ∨ (0 = 0 ∧ ¬ (k = 0 ∧ (4 ≤ sgO (ltr Tx lm (k + 1)) ∧ sgO (ltr Tx lm (k + 1)) ≤ 11) ∧ (4 ≤ sgO (ltr Tx lm (k + 2)) ∧ sgO (ltr Tx lm (k + 2)) ≤ 11))) from by omega) rfl
      · skip
        refine r_iconst C dX12_readsGrid_58 ?_
        refine r_goto C 63 dX12_readsGrid_59 rfl ?_
        exact e_z C () dX12_readsGrid_63 (by omega) (show (1 = 1 ∧ k = 0 ∧ (4 ≤ sgO (ltr Tx lm (k + 1)) ∧ sgO (ltr Tx lm (k + 1)) ≤ 11) ∧ (4 ≤ sgO (ltr Tx lm (k + 2)) ∧ sgO (ltr Tx lm (k + 2)) ≤ 11)) ∨ (1 = 0 ∧ ¬ (k = 0 ∧ (4 ≤ sgO (ltr Tx lm (k + 1)) ∧ sgO (ltr Tx lm (k + 1)) ≤ 11) ∧ (4 ≤ sgO (ltr Tx lm (k + 2)) ∧ sgO (ltr Tx lm (k + 2)) ≤ 11))) from by omega) rfl
set_option maxHeartbeats 1000000 in
set_option maxRecDepth 100000 in
theorem c_X12_readsRow (l : Launch) (g : Gx) (hM : Nat) (wi : Int) (hi : Int) (mN : Nat) (mC : Nat) (cm : Int) (ca : Int) (mL : Nat) (sc : Int) (qu : Int) (fp : Int) (mT : Nat) (lm : Int) (nw : Int) (nh : Int) (nr : Int) (mF : Nat) (mR : Nat) (mD : Nat) (mA : Nat) (ii : Int) (wo : Int) (wd : Int) (oe : Int) (mK : Nat) (rm : Int) (mH : Nat) (cn : Int) (Tx : Int → Int) (Fr : Int → Int) (k : Int) (kl : 0 ≤ lm ∧ lm ≤ 200) (kT : ∀ k : Int, 0 ≤ k → k < 200 → 0 ≤ Tx k ∧ Tx k ≤ 65535) (kk : 0 ≤ k ∧ k ≤ 200) (kw : 4 ≤ nw ∧ nw ≤ 11) (kh : 4 ≤ nh ∧ nh ≤ 11) (kr : 0 ≤ nr ∧ nr ≤ nh) (sz : Nat) : Met l yX12_readsRow (.code yX12_readsRow cX12_readsRow 4 (some .boolean) :: wsL_law) { frames := 1, cells := 0, slots := 0, locals := 21 } (PR g [.ref hM, vi k] [(hM, oB 11 [vi wi, vi hi, .ref mN, .ref mC, vi cm, vi ca, .ref mL, vi sc, vi qu, vi fp, .ref mT, vi lm, vi nw, vi nh, vi nr, .ref mF, .ref mR, .ref mD, .ref mA, vi ii, vi wo, vi wd, vi oe, .ref mK, vi rm, .ref mH, vi cn]), (mT, aI g 200 Tx), (mF, aI g 145 Fr)] sz) (PI (S := (Int → Int) × Int) g (fun r u_ => (r = 1 ∧ nr < nh ∧ (∀ u : Int, 0 ≤ u → u < nw → ltr Tx lm (k + 1 + u) = 35 ∨ ltr Tx lm (k + 1 + u) = 46) ∧ u_.2 = nr + 1 ∧ ∀ j : Int, u_.1 j = if 11 * nr ≤ j ∧ j < 11 * nr + nw then isH (ltr Tx lm) k (j - 11 * nr) else Fr j) ∨ (r = 0 ∧ ¬ (nr < nh ∧ (∀ u : Int, 0 ≤ u → u < nw → ltr Tx lm (k + 1 + u) = 35 ∨ ltr Tx lm (k + 1 + u) = 46)))) (fun u_ => [(hM, oB 11 [vi wi, vi hi, .ref mN, .ref mC, vi cm, vi ca, .ref mL, vi sc, vi qu, vi fp, .ref mT, vi lm, vi nw, vi nh, vi u_.2, .ref mF, .ref mR, .ref mD, .ref mA, vi ii, vi wo, vi wd, vi oe, .ref mK, vi rm, .ref mH, vi cn]), (mT, aI g 200 Tx), (mF, aI g 145 u_.1)]) [(hM, oB 11 [vi wi, vi hi, .ref mN, .ref mC, vi cm, vi ca, .ref mL, vi sc, vi qu, vi fp, .ref mT, vi lm, vi nw, vi nh, vi nr, .ref mF, .ref mR, .ref mD, .ref mA, vi ii, vi wo, vi wd, vi oe, .ref mK, vi rm, .ref mH, vi cn]), (mT, aI g 200 Tx), (mF, aI g 145 Fr)] sz) 0 0 (va_A [(hM, oB 11 [vi wi, vi hi, .ref mN, .ref mC, vi cm, vi ca, .ref mL, vi sc, vi qu, vi fp, .ref mT, vi lm, vi nw, vi nh, vi nr, .ref mF, .ref mR, .ref mD, .ref mA, vi ii, vi wo, vi wd, vi oe, .ref mK, vi rm, .ref mH, vi cn]), (mT, aI g 200 Tx), (mF, aI g 145 Fr)] sz) := by
  refine meet (own := RX12) rfl (plainFor_of_name (by decide +kernel)) rfl (fun p_ e_ s_ m_ args_ below_ meth_ c_ C hnm => ?_)
  refine r_at (ws' := [(hM, oB 11 [vi wi, vi hi, .ref mN, .ref mC, vi cm, vi ca, .ref mL, vi sc, vi qu, vi fp, .ref mT, vi lm, vi nw, vi nh, vi nr, .ref mF, .ref mR, .ref mD, .ref mA, vi ii, vi wo, vi wd, vi oe, .ref mK, vi rm, .ref mH, vi cn]), (mT, aI g 200 Tx), (mF, aI g 145 Fr)]) (lv' := [(0, .ref hM), (1, vi k)]) rfl rfl ?_
  have hlb : ∀ j : Int, 0 ≤ ltr Tx lm j ∧ ltr Tx lm j ≤ 65535 := fun j => by unfold ltr; split; exact kT j (by omega) (by omega); omega
  refine r_aload_n C dX12_readsRow_0 0 rfl ?_
  refine gf_X12_78 C dX12_readsRow_1 0 rfl rfl ?_
  refine r_aload_n C dX12_readsRow_4 0 rfl ?_
  refine gf_X12_75 C dX12_readsRow_5 0 rfl rfl ?_
  refine r_icmp_ne C 13 dX12_readsRow_8 rfl (by omega) (fun c_1 => ?_) (fun c_1 => ?_)
  · skip
    refine r_iconst C dX12_readsRow_13 ?_
    refine r_istore_n C (lv' := [(2, vi 0), (0, .ref hM), (1, vi k)]) dX12_readsRow_14 rfl rfl ?_
    refine r_lv (lv' := [(0, .ref hM), (1, vi k), (2, vi 0)]) [1, 2, 0] rfl ?_
    refine r_loop (σ := Int × (Int → Int)) (fun z_ => (0 ≤ z_.1 ∧ z_.1 ≤ nw) ∧ (∀ u : Int, 0 ≤ u → u < z_.1 → ltr Tx lm (k + 1 + u) = 35 ∨ ltr Tx lm (k + 1 + u) = 46) ∧ (∀ j : Int, z_.2 j = if 11 * nr ≤ j ∧ j < 11 * nr + z_.1 then isH (ltr Tx lm) k (j - 11 * nr) else Fr j)) (fun z_ => nw - z_.1) (fun z_ => [(hM, oB 11 [vi wi, vi hi, .ref mN, .ref mC, vi cm, vi ca, .ref mL, vi sc, vi qu, vi fp, .ref mT, vi lm, vi nw, vi nh, vi nr, .ref mF, .ref mR, .ref mD, .ref mA, vi ii, vi wo, vi wd, vi oe, .ref mK, vi rm, .ref mH, vi cn]), (mT, aI g 200 Tx), (mF, aI g 145 z_.2)]) (fun z_ => [(0, .ref hM), (1, vi k), (2, vi z_.1)]) (fun z_ hz => ?_) (fun z_ hz ih_15 => ?_) (((0, Fr) : Int × (Int → Int))) ?_
    · obtain ⟨x, P⟩ := z_
      obtain ⟨jx, ja, jP⟩ := hz
      have jx : 0 ≤ x ∧ x ≤ nw := jx
      have ja : ∀ u : Int, 0 ≤ u → u < x → ltr Tx lm (k + 1 + u) = 35 ∨ ltr Tx lm (k + 1 + u) = 46 := ja
      have jP : ∀ j : Int, P j = if 11 * nr ≤ j ∧ j < 11 * nr + x then isH (ltr Tx lm) k (j - 11 * nr) else Fr j := jP
      show (0 : Int) ≤ nw - x
      omega
    rotate_left
    · show (0 ≤ 0 ∧ 0 ≤ nw) ∧ (∀ u : Int, 0 ≤ u → u < 0 → ltr Tx lm (k + 1 + u) = 35 ∨ ltr Tx lm (k + 1 + u) = 46) ∧ (∀ j : Int, Fr j = if 11 * nr ≤ j ∧ j < 11 * nr + 0 then isH (ltr Tx lm) k (j - 11 * nr) else Fr j)
      exact ⟨(by omega), (fun u a b => by omega), (fun j => by rw [if_neg (by omega)])⟩
    obtain ⟨x, P⟩ := z_
    obtain ⟨jx, ja, jP⟩ := hz
    have jx : 0 ≤ x ∧ x ≤ nw := jx
    have ja : ∀ u : Int, 0 ≤ u → u < x → ltr Tx lm (k + 1 + u) = 35 ∨ ltr Tx lm (k + 1 + u) = 46 := ja
    have jP : ∀ j : Int, P j = if 11 * nr ≤ j ∧ j < 11 * nr + x then isH (ltr Tx lm) k (j - 11 * nr) else Fr j := jP
    refine r_at (ws' := [(hM, oB 11 [vi wi, vi hi, .ref mN, .ref mC, vi cm, vi ca, .ref mL, vi sc, vi qu, vi fp, .ref mT, vi lm, vi nw, vi nh, vi nr, .ref mF, .ref mR, .ref mD, .ref mA, vi ii, vi wo, vi wd, vi oe, .ref mK, vi rm, .ref mH, vi cn]), (mT, aI g 200 Tx), (mF, aI g 145 P)]) (lv' := [(0, .ref hM), (1, vi k), (2, vi x)]) rfl rfl ?_
    refine r_iload_n C dX12_readsRow_15 2 rfl ?_
    refine r_aload_n C dX12_readsRow_16 0 rfl ?_
    refine gf_X12_72 C dX12_readsRow_17 0 rfl rfl ?_
    refine r_icmp_ge C 78 dX12_readsRow_20 rfl (by omega) (fun c_2 => ?_) (fun c_2 => ?_)
    · skip
      refine r_aload_n C dX12_readsRow_78 0 rfl ?_
      refine r_dup C dX12_readsRow_79 rfl ?_
      refine gf_X12_78 C dX12_readsRow_80 0 rfl rfl ?_
      refine r_iconst C dX12_readsRow_83 ?_
      refine r_iadd C dX12_readsRow_84 ?_
      refine pf_X12_78 C (ws' := [(hM, oB 11 [vi wi, vi hi, .ref mN, .ref mC, vi cm, vi ca, .ref mL, vi sc, vi qu, vi fp, .ref mT, vi lm, vi nw, vi nh, vi (nr + 1), .ref mF, .ref mR, .ref mD, .ref mA, vi ii, vi wo, vi wd, vi oe, .ref mK, vi rm, .ref mH, vi cn]), (mT, aI g 200 Tx), (mF, aI g 145 P)]) dX12_readsRow_85 0 rfl (Nat.le_of_ble_eq_true rfl) rfl ?_
      refine r_iconst C dX12_readsRow_88 ?_
      exact e_z C (P, nr + 1) dX12_readsRow_89 (by omega) (show (1 = 1 ∧ nr < nh ∧ (∀ u : Int, 0 ≤ u → u < nw → ltr Tx lm (k + 1 + u) = 35 ∨ ltr Tx lm (k + 1 + u) = 46) ∧ (nr + 1) = nr + 1 ∧ ∀ j : Int, P j = if 11 * nr ≤ j ∧ j < 11 * nr + nw then isH (ltr Tx lm) k (j - 11 * nr) else Fr j) ∨ (1 = 0 ∧ ¬ (nr < nh ∧ (∀ u : Int, 0 ≤ u → u < nw → ltr Tx lm (k + 1 + u) = 35 ∨ ltr Tx lm (k + 1 + u) = 46))) from Or.inl ⟨rfl, by omega, fun u a b => ja u a (by omega), rfl, fun j => by rw [jP j, show x = nw by omega]⟩) rfl
    · skip
      refine r_aload_n C dX12_readsRow_23 0 rfl ?_
      refine r_iload_n C dX12_readsRow_24 1 rfl ?_
      refine r_iconst C dX12_readsRow_25 ?_
      refine r_iadd C dX12_readsRow_26 ?_
      refine r_iload_n C dX12_readsRow_27 2 rfl ?_
      refine r_iadd C dX12_readsRow_28 ?_
      have lb1 := hlb (k + 1 + x)
      refine k_Vi C kv_X12_65 (fun sz => c_X12_letter l g hM wi hi mN mC cm ca mL sc qu fp mT lm nw nh nr mF mR mD mA ii wo wd oe mK rm mH cn Tx ((k + 1) + x) (by omega) (by omega) sz) dX12_readsRow_29 rfl rfl rfl ⟨rfl, rfl⟩ 0 11 rfl rfl rfl [0, 1] rfl rfl (fun _ => rfl) (ws' := fun u_ => [(hM, oB 11 [vi wi, vi hi, .ref mN, .ref mC, vi cm, vi ca, .ref mL, vi sc, vi qu, vi fp, .ref mT, vi lm, vi nw, vi nh, vi nr, .ref mF, .ref mR, .ref mD, .ref mA, vi ii, vi wo, vi wd, vi oe, .ref mK, vi rm, .ref mH, vi cn]), (mT, aI g 200 Tx), (mF, aI g 145 P)]) (fun _ => rfl) (fun r_29 u_ p_29 => ?_)
      have p_29 : r_29 = ltr Tx lm ((k + 1) + x) := p_29
      refine r_eq (y := (ltr Tx lm ((k + 1) + x))) p_29 ?_
      refine r_istore_n C (lv' := [(3, vi (ltr Tx lm ((k + 1) + x))), (0, .ref hM), (1, vi k), (2, vi x)]) dX12_readsRow_32 rfl rfl ?_
      refine r_iload_n C dX12_readsRow_33 0 rfl ?_
      refine r_bipush C dX12_readsRow_34 rfl ?_
      refine r_icmp_eq C 47 dX12_readsRow_36 rfl (by omega) (fun c_3 => ?_) (fun c_3 => ?_)
      · skip
        refine r_aload_n C dX12_readsRow_47 1 rfl ?_
        refine gf_X12_26 C dX12_readsRow_48 0 rfl rfl ?_
        refine r_bipush C dX12_readsRow_51 rfl ?_
        refine r_aload_n C dX12_readsRow_53 1 rfl ?_
        refine gf_X12_78 C dX12_readsRow_54 0 rfl rfl ?_
        refine r_imul C dX12_readsRow_57 ?_
        refine r_iload_n C dX12_readsRow_58 3 rfl ?_
        refine r_iadd C dX12_readsRow_59 ?_
        refine r_iload_n C dX12_readsRow_60 0 rfl ?_
        refine r_bipush C dX12_readsRow_61 rfl ?_
        refine r_icmp_ne C 70 dX12_readsRow_63 rfl (by omega) (fun c_4 => ?_) (fun c_4 => ?_)
        · skip
          refine r_iconst C dX12_readsRow_70 ?_
          refine r_iast C (ws' := [(hM, oB 11 [vi wi, vi hi, .ref mN, .ref mC, vi cm, vi ca, .ref mL, vi sc, vi qu, vi fp, .ref mT, vi lm, vi nw, vi nh, vi nr, .ref mF, .ref mR, .ref mD, .ref mA, vi ii, vi wo, vi wd, vi oe, .ref mK, vi rm, .ref mH, vi cn]), (mT, aI g 200 Tx), (mF, aI g 145 (zU P ((11 * nr) + x) 0))]) dX12_readsRow_71 2 rfl rfl (by omega) rfl ?_
          refine r_iinc C (lv' := [(2, vi (x + 1)), (3, vi (ltr Tx lm ((k + 1) + x))), (0, .ref hM), (1, vi k)]) dX12_readsRow_72 3 rfl rfl rfl ?_
          refine r_goto C 15 dX12_readsRow_75 rfl ?_
          refine r_lv (lv' := [(0, .ref hM), (1, vi k), (2, vi (x + 1))]) [2, 3, 0] rfl ?_
          exact ih_15 (x + 1, zU P ((11 * nr) + x) 0) (show (0 ≤ (x + 1) ∧ (x + 1) ≤ nw) ∧ (∀ u : Int, 0 ≤ u → u < (x + 1) → ltr Tx lm (k + 1 + u) = 35 ∨ ltr Tx lm (k + 1 + u) = 46) ∧ (∀ j : Int, (zU P ((11 * nr) + x) 0) j = if 11 * nr ≤ j ∧ j < 11 * nr + (x + 1) then isH (ltr Tx lm) k (j - 11 * nr) else Fr j) from ⟨(by omega), (fun u a b => by
      by_cases e : u = x
      · subst e; omega
      · exact ja u a (by omega)), (fun j => by
      by_cases e : j = 11 * nr + x
      · rw [e, zU_eq, if_pos (by omega), show 11 * nr + x - 11 * nr = x by omega]; unfold isH; split <;> omega
      · rw [zU_ne _ _ e, jP j]
        by_cases q : 11 * nr ≤ j ∧ j < 11 * nr + x
        · rw [if_pos q, if_pos (by omega)]
        · rw [if_neg q, if_neg (by omega)])⟩) (show nw - (x + 1) < nw - x from by omega)
        · skip
          refine r_iconst C dX12_readsRow_66 ?_
          refine r_goto C 71 dX12_readsRow_67 rfl ?_
          refine r_iast C (ws' := [(hM, oB 11 [vi wi, vi hi, .ref mN, .ref mC, vi cm, vi ca, .ref mL, vi sc, vi qu, vi fp, .ref mT, vi lm, vi nw, vi nh, vi nr, .ref mF, .ref mR, .ref mD, .ref mA, vi ii, vi wo, vi wd, vi oe, .ref mK, vi rm, .ref mH, vi cn]), (mT, aI g 200 Tx), (mF, aI g 145 (zU P ((11 * nr) + x) 1))]) dX12_readsRow_71 2 rfl rfl (by omega) rfl ?_
          refine r_iinc C (lv' := [(2, vi (x + 1)), (3, vi (ltr Tx lm ((k + 1) + x))), (0, .ref hM), (1, vi k)]) dX12_readsRow_72 3 rfl rfl rfl ?_
          refine r_goto C 15 dX12_readsRow_75 rfl ?_
          refine r_lv (lv' := [(0, .ref hM), (1, vi k), (2, vi (x + 1))]) [2, 3, 0] rfl ?_
          exact ih_15 (x + 1, zU P ((11 * nr) + x) 1) (show (0 ≤ (x + 1) ∧ (x + 1) ≤ nw) ∧ (∀ u : Int, 0 ≤ u → u < (x + 1) → ltr Tx lm (k + 1 + u) = 35 ∨ ltr Tx lm (k + 1 + u) = 46) ∧ (∀ j : Int, (zU P ((11 * nr) + x) 1) j = if 11 * nr ≤ j ∧ j < 11 * nr + (x + 1) then isH (ltr Tx lm) k (j - 11 * nr) else Fr j) from ⟨(by omega), (fun u a b => by
      by_cases e : u = x
      · subst e; omega
      · exact ja u a (by omega)), (fun j => by
      by_cases e : j = 11 * nr + x
      · rw [e, zU_eq, if_pos (by omega), show 11 * nr + x - 11 * nr = x by omega]; unfold isH; split <;> omega
      · rw [zU_ne _ _ e, jP j]
        by_cases q : 11 * nr ≤ j ∧ j < 11 * nr + x
        · rw [if_pos q, if_pos (by omega)]
        · rw [if_neg q, if_neg (by omega)])⟩) (show nw - (x + 1) < nw - x from by omega)
      · skip
        refine r_iload_n C dX12_readsRow_39 0 rfl ?_
        refine r_bipush C dX12_readsRow_40 rfl ?_
        refine r_icmp_eq C 47 dX12_readsRow_42 rfl (by omega) (fun c_5 => ?_) (fun c_5 => ?_)
        · skip
          refine r_aload_n C dX12_readsRow_47 1 rfl ?_
          refine gf_X12_26 C dX12_readsRow_48 0 rfl rfl ?_
          refine r_bipush C dX12_readsRow_51 rfl ?_
          refine r_aload_n C dX12_readsRow_53 1 rfl ?_
          refine gf_X12_78 C dX12_readsRow_54 0 rfl rfl ?_
          refine r_imul C dX12_readsRow_57 ?_
          refine r_iload_n C dX12_readsRow_58 3 rfl ?_
          refine r_iadd C dX12_readsRow_59 ?_
          refine r_iload_n C dX12_readsRow_60 0 rfl ?_
          refine r_bipush C dX12_readsRow_61 rfl ?_
          refine r_icmp_ne C 70 dX12_readsRow_63 rfl (by omega) (fun c_6 => ?_) (fun c_6 => ?_)
          · skip
            refine r_iconst C dX12_readsRow_70 ?_
            refine r_iast C (ws' := [(hM, oB 11 [vi wi, vi hi, .ref mN, .ref mC, vi cm, vi ca, .ref mL, vi sc, vi qu, vi fp, .ref mT, vi lm, vi nw, vi nh, vi nr, .ref mF, .ref mR, .ref mD, .ref mA, vi ii, vi wo, vi wd, vi oe, .ref mK, vi rm, .ref mH, vi cn]), (mT, aI g 200 Tx), (mF, aI g 145 (zU P ((11 * nr) + x) 0))]) dX12_readsRow_71 2 rfl rfl (by omega) rfl ?_
            refine r_iinc C (lv' := [(2, vi (x + 1)), (3, vi (ltr Tx lm ((k + 1) + x))), (0, .ref hM), (1, vi k)]) dX12_readsRow_72 3 rfl rfl rfl ?_
            refine r_goto C 15 dX12_readsRow_75 rfl ?_
            refine r_lv (lv' := [(0, .ref hM), (1, vi k), (2, vi (x + 1))]) [2, 3, 0] rfl ?_
            exact ih_15 (x + 1, zU P ((11 * nr) + x) 0) (show (0 ≤ (x + 1) ∧ (x + 1) ≤ nw) ∧ (∀ u : Int, 0 ≤ u → u < (x + 1) → ltr Tx lm (k + 1 + u) = 35 ∨ ltr Tx lm (k + 1 + u) = 46) ∧ (∀ j : Int, (zU P ((11 * nr) + x) 0) j = if 11 * nr ≤ j ∧ j < 11 * nr + (x + 1) then isH (ltr Tx lm) k (j - 11 * nr) else Fr j) from ⟨(by omega), (fun u a b => by
      by_cases e : u = x
      · subst e; omega
      · exact ja u a (by omega)), (fun j => by
      by_cases e : j = 11 * nr + x
      · rw [e, zU_eq, if_pos (by omega), show 11 * nr + x - 11 * nr = x by omega]; unfold isH; split <;> omega
      · rw [zU_ne _ _ e, jP j]
        by_cases q : 11 * nr ≤ j ∧ j < 11 * nr + x
        · rw [if_pos q, if_pos (by omega)]
        · rw [if_neg q, if_neg (by omega)])⟩) (show nw - (x + 1) < nw - x from by omega)
          · skip
            refine r_iconst C dX12_readsRow_66 ?_
            refine r_goto C 71 dX12_readsRow_67 rfl ?_
            refine r_iast C (ws' := [(hM, oB 11 [vi wi, vi hi, .ref mN, .ref mC, vi cm, vi ca, .ref mL, vi sc, vi qu, vi fp, .ref mT, vi lm, vi nw, vi nh, vi nr, .ref mF, .ref mR, .ref mD, .ref mA, vi ii, vi wo, vi wd, vi oe, .ref mK, vi rm, .ref mH, vi cn]), (mT, aI g 200 Tx), (mF, aI g 145 (zU P ((11 * nr) + x) 1))]) dX12_readsRow_71 2 rfl rfl (by omega) rfl ?_
            refine r_iinc C (lv' := [(2, vi (x + 1)), (3, vi (ltr Tx lm ((k + 1) + x))), (0, .ref hM), (1, vi k)]) dX12_readsRow_72 3 rfl rfl rfl ?_
            refine r_goto C 15 dX12_readsRow_75 rfl ?_
            refine r_lv (lv' := [(0, .ref hM), (1, vi k), (2, vi (x + 1))]) [2, 3, 0] rfl ?_
            exact ih_15 (x + 1, zU P ((11 * nr) + x) 1) (show (0 ≤ (x + 1) ∧ (x + 1) ≤ nw) ∧ (∀ u : Int, 0 ≤ u → u < (x + 1) → ltr Tx lm (k + 1 + u) = 35 ∨ ltr Tx lm (k + 1 + u) = 46) ∧ (∀ j : Int, (zU P ((11 * nr) + x) 1) j = if 11 * nr ≤ j ∧ j < 11 * nr + (x + 1) then isH (ltr Tx lm) k (j - 11 * nr) else Fr j) from ⟨(by omega), (fun u a b => by
      by_cases e : u = x
      · subst e; omega
      · exact ja u a (by omega)), (fun j => by
      by_cases e : j = 11 * nr + x
      · rw [e, zU_eq, if_pos (by omega), show 11 * nr + x - 11 * nr = x by omega]; unfold isH; split <;> omega
      · rw [zU_ne _ _ e, jP j]
        by_cases q : 11 * nr ≤ j ∧ j < 11 * nr + x
        · rw [if_pos q, if_pos (by omega)]
        · rw [if_neg q, if_neg (by omega)])⟩) (show nw - (x + 1) < nw - x from by omega)
        · skip
          refine r_iconst C dX12_readsRow_45 ?_
          exact e_z C (P, nr) dX12_readsRow_46 (by omega) (show (0 = 1 ∧ nr < nh ∧ (∀ u : Int, 0 ≤ u → u < nw → ltr Tx lm (k + 1 + u) = 35 ∨ ltr Tx lm (k + 1 + u) = 46) ∧ nr = nr + 1 ∧ ∀ j : Int, P j = if 11 * nr ≤ j ∧ j < 11 * nr + nw then isH (ltr Tx lm) k (j - 11 * nr) else Fr j) ∨ (0 = 0 ∧ ¬ (nr < nh ∧ (∀ u : Int, 0 ≤ u → u < nw → ltr Tx lm (k + 1 + u) = 35 ∨ ltr Tx lm (k + 1 + u) = 46))) from Or.inr ⟨rfl, fun z => by have := z.2 x jx.1 (by omega); omega⟩) rfl
  · skip
    refine r_iconst C dX12_readsRow_11 ?_
    exact e_z C (Fr, nr) dX12_readsRow_12 (by omega) (show (0 = 1 ∧ nr < nh ∧ (∀ u : Int, 0 ≤ u → u < nw → ltr Tx lm (k + 1 + u) = 35 ∨ ltr Tx lm (k + 1 + u) = 46) ∧ nr = nr + 1 ∧ ∀ j : Int, Fr j = if 11 * nr ≤ j ∧ j < 11 * nr + nw then isH (ltr Tx lm) k (j - 11 * nr) else Fr j) ∨ (0 = 0 ∧ ¬ (nr < nh ∧ (∀ u : Int, 0 ≤ u → u < nw → ltr Tx lm (k + 1 + u) = 35 ∨ ltr Tx lm (k + 1 + u) = 46))) from Or.inr ⟨rfl, fun z => by have := z.1; omega⟩) rfl
set_option maxHeartbeats 1000000 in
set_option maxRecDepth 100000 in
theorem c_X12_dotAt (l : Launch) (g : Gx) (q1 : Nat) (R : Int → Int) (x : Int) (y : Int) (kn : 0 ≤ R 141 ∧ R 141 ≤ 10) (kX : ∀ d : Int, 0 ≤ d → d < 10 → -5 ≤ R (121 + d) ∧ R (121 + d) ≤ 5) (kY : ∀ d : Int, 0 ≤ d → d < 10 → -5 ≤ R (131 + d) ∧ R (131 + d) ≤ 5) (bbx : -2147483648 ≤ x ∧ x ≤ 2147483647) (bby : -2147483648 ≤ y ∧ y ≤ 2147483647) (sz : Nat) : Met l yX12_dotAt (.code yX12_dotAt cX12_dotAt 4 (some .int) :: wsL_law) { frames := 0, cells := 0, slots := 0, locals := 0 } (PR g [.ref q1, vi x, vi y] [(q1, aI g 145 R)] sz) (PI (S := Unit) g (fun r u_ => (r = -4 ∧ ∀ d : Int, 0 ≤ d → d < R 141 → ¬ (R (121 + d) = x ∧ R (131 + d) = y)) ∨ (0 ≤ r ∧ r ≤ 10 ∧ ∃ d : Int, 0 ≤ d ∧ d < R 141 ∧ R (121 + d) = x ∧ R (131 + d) = y)) (fun u_ => [(q1, aI g 145 R)]) [(q1, aI g 145 R)] sz) 0 0 (va_A [(q1, aI g 145 R)] sz) := by
  refine meet (own := RX12) rfl (plainFor_of_name (by decide +kernel)) rfl (fun p_ e_ s_ m_ args_ below_ meth_ c_ C hnm => ?_)
  refine r_at (ws' := [(q1, aI g 145 R)]) (lv' := [(0, .ref q1), (1, vi x), (2, vi y)]) rfl rfl ?_
  refine r_iconst C dX12_dotAt_0 ?_
  refine r_istore_n C (lv' := [(3, vi 0), (0, .ref q1), (1, vi x), (2, vi y)]) dX12_dotAt_1 rfl rfl ?_
  refine r_lv (lv' := [(0, .ref q1), (1, vi x), (2, vi y), (3, vi 0)]) [1, 2, 3, 0] rfl ?_
  refine r_loop (σ := Int) (fun z_ => (0 ≤ z_ ∧ z_ ≤ R 141) ∧ (∀ d : Int, 0 ≤ d → d < z_ → ¬ (R (121 + d) = x ∧ R (131 + d) = y))) (fun z_ => R 141 - z_) (fun z_ => [(q1, aI g 145 R)]) (fun z_ => [(0, .ref q1), (1, vi x), (2, vi y), (3, vi z_)]) (fun z_ hz => ?_) (fun z_ hz ih_2 => ?_) ((0 : Int)) ?_
  · obtain ⟨i, rfl⟩ : ∃ w_, w_ = z_ := ⟨_, rfl⟩
    obtain ⟨hi, ha⟩ := hz
    have hi : 0 ≤ i ∧ i ≤ R 141 := hi
    have ha : ∀ d : Int, 0 ≤ d → d < i → ¬ (R (121 + d) = x ∧ R (131 + d) = y) := ha
    show (0 : Int) ≤ R 141 - i
    omega
  rotate_left
  · show (0 ≤ 0 ∧ 0 ≤ R 141) ∧ (∀ d : Int, 0 ≤ d → d < 0 → ¬ (R (121 + d) = x ∧ R (131 + d) = y))
    exact ⟨(by omega), (fun d h0 h1 => by omega)⟩
  obtain ⟨i, rfl⟩ : ∃ w_, w_ = z_ := ⟨_, rfl⟩
  obtain ⟨hi, ha⟩ := hz
  have hi : 0 ≤ i ∧ i ≤ R 141 := hi
  have ha : ∀ d : Int, 0 ≤ d → d < i → ¬ (R (121 + d) = x ∧ R (131 + d) = y) := ha
  refine r_at (ws' := [(q1, aI g 145 R)]) (lv' := [(0, .ref q1), (1, vi x), (2, vi y), (3, vi i)]) rfl rfl ?_
  refine r_iload_n C dX12_dotAt_2 3 rfl ?_
  refine r_aload_n C dX12_dotAt_3 0 rfl ?_
  refine r_sipush C dX12_dotAt_4 rfl ?_
  refine r_iald C dX12_dotAt_7 0 rfl rfl (by omega) ?_
  refine r_icmp_ge C 40 dX12_dotAt_8 rfl (by omega) (fun c_1 => ?_) (fun c_1 => ?_)
  · skip
    refine r_bipush C dX12_dotAt_40 rfl ?_
    exact e_i C () dX12_dotAt_42 (show ((-4) = -4 ∧ ∀ d : Int, 0 ≤ d → d < R 141 → ¬ (R (121 + d) = x ∧ R (131 + d) = y)) ∨ (0 ≤ (-4) ∧ (-4) ≤ 10 ∧ ∃ d : Int, 0 ≤ d ∧ d < R 141 ∧ R (121 + d) = x ∧ R (131 + d) = y) from Or.inl ⟨rfl, fun d h0 h1 => ha d h0 (by omega)⟩) rfl
  · skip
    refine r_aload_n C dX12_dotAt_11 0 rfl ?_
    refine r_bipush C dX12_dotAt_12 rfl ?_
    refine r_iload_n C dX12_dotAt_14 3 rfl ?_
    refine r_iadd C dX12_dotAt_15 ?_
    refine r_iald C dX12_dotAt_16 0 rfl rfl (by omega) ?_
    have b1 := kX i (by omega) (by omega)
    refine r_iload_n C dX12_dotAt_17 1 rfl ?_
    refine r_icmp_ne C 34 dX12_dotAt_18 rfl (by omega) (fun c_2 => ?_) (fun c_2 => ?_)
    · skip
      refine r_iinc C (lv' := [(3, vi (i + 1)), (0, .ref q1), (1, vi x), (2, vi y)]) dX12_dotAt_34 3 rfl rfl rfl ?_
      refine r_goto C 2 dX12_dotAt_37 rfl ?_
      refine r_lv (lv' := [(0, .ref q1), (1, vi x), (2, vi y), (3, vi (i + 1))]) [1, 2, 3, 0] rfl ?_
      exact ih_2 (i + 1) (show (0 ≤ (i + 1) ∧ (i + 1) ≤ R 141) ∧ (∀ d : Int, 0 ≤ d → d < (i + 1) → ¬ (R (121 + d) = x ∧ R (131 + d) = y)) from ⟨(by omega), (fun d h0 h1 => by
      by_cases e : d = i
      · subst e; omega
      · exact ha d h0 (by omega))⟩) (show R 141 - (i + 1) < R 141 - i from by omega)
    · skip
      refine r_aload_n C dX12_dotAt_21 0 rfl ?_
      refine r_sipush C dX12_dotAt_22 rfl ?_
      refine r_iload_n C dX12_dotAt_25 3 rfl ?_
      refine r_iadd C dX12_dotAt_26 ?_
      refine r_iald C dX12_dotAt_27 0 rfl rfl (by omega) ?_
      have b2 := kY i (by omega) (by omega)
      refine r_iload_n C dX12_dotAt_28 2 rfl ?_
      refine r_icmp_ne C 34 dX12_dotAt_29 rfl (by omega) (fun c_3 => ?_) (fun c_3 => ?_)
      · skip
        refine r_iinc C (lv' := [(3, vi (i + 1)), (0, .ref q1), (1, vi x), (2, vi y)]) dX12_dotAt_34 3 rfl rfl rfl ?_
        refine r_goto C 2 dX12_dotAt_37 rfl ?_
        refine r_lv (lv' := [(0, .ref q1), (1, vi x), (2, vi y), (3, vi (i + 1))]) [1, 2, 3, 0] rfl ?_
        exact ih_2 (i + 1) (show (0 ≤ (i + 1) ∧ (i + 1) ≤ R 141) ∧ (∀ d : Int, 0 ≤ d → d < (i + 1) → ¬ (R (121 + d) = x ∧ R (131 + d) = y)) from ⟨(by omega), (fun d h0 h1 => by
      by_cases e : d = i
      · subst e; omega
      · exact ha d h0 (by omega))⟩) (show R 141 - (i + 1) < R 141 - i from by omega)
      · skip
        refine r_iload_n C dX12_dotAt_32 3 rfl ?_
        exact e_i C () dX12_dotAt_33 (show (i = -4 ∧ ∀ d : Int, 0 ≤ d → d < R 141 → ¬ (R (121 + d) = x ∧ R (131 + d) = y)) ∨ (0 ≤ i ∧ i ≤ 10 ∧ ∃ d : Int, 0 ≤ d ∧ d < R 141 ∧ R (121 + d) = x ∧ R (131 + d) = y) from Or.inr ⟨by omega, by omega, i, by omega, by omega, by omega, by omega⟩) rfl
set_option maxHeartbeats 1000000 in
set_option maxRecDepth 100000 in
theorem c_X12_comesDot (l : Launch) (g : Gx) (q1 : Nat) (R : Int → Int) (x : Int) (y : Int) (kn : 0 ≤ R 141 ∧ R 141 < 10) (sz : Nat) : Met l yX12_comesDot (.code yX12_comesDot cX12_comesDot 3 none :: wsL_law) { frames := 0, cells := 0, slots := 0, locals := 0 } (PR g [.ref q1, vi x, vi y] [(q1, aI g 145 R)] sz) (PV (S := Unit) g (fun u_ => True) (fun u_ => [(q1, aI g 145 (cnR R x y))]) [(q1, aI g 145 R)] sz) 0 0 (va_A [(q1, aI g 145 R)] sz) := by
  refine meet (own := RX12) rfl (plainFor_of_name (by decide +kernel)) rfl (fun p_ e_ s_ m_ args_ below_ meth_ c_ C hnm => ?_)
  refine r_at (ws' := [(q1, aI g 145 R)]) (lv' := [(0, .ref q1), (1, vi x), (2, vi y)]) rfl rfl ?_
  refine r_aload_n C dX12_comesDot_0 0 rfl ?_
  refine r_bipush C dX12_comesDot_1 rfl ?_
  refine r_aload_n C dX12_comesDot_3 0 rfl ?_
  refine r_sipush C dX12_comesDot_4 rfl ?_
  refine r_iald C dX12_comesDot_7 0 rfl rfl (by omega) ?_
  refine r_iadd C dX12_comesDot_8 ?_
  refine r_iload_n C dX12_comesDot_9 1 rfl ?_
  refine r_iast C (ws' := [(q1, aI g 145 (zU R (121 + (R 141)) x))]) dX12_comesDot_10 0 rfl rfl (by omega) rfl ?_
  refine r_aload_n C dX12_comesDot_11 0 rfl ?_
  refine r_sipush C dX12_comesDot_12 rfl ?_
  refine r_aload_n C dX12_comesDot_15 0 rfl ?_
  refine r_sipush C dX12_comesDot_16 rfl ?_
  refine r_iald C dX12_comesDot_19 0 rfl rfl (by omega) ?_
  refine r_eq (y := (R 141)) (zU_ne _ _ (by omega)) ?_
  refine r_iadd C dX12_comesDot_20 ?_
  refine r_iload_n C dX12_comesDot_21 2 rfl ?_
  refine r_iast C (ws' := [(q1, aI g 145 (zU (zU R (121 + (R 141)) x) (131 + (R 141)) y))]) dX12_comesDot_22 0 rfl rfl (by omega) rfl ?_
  refine r_aload_n C dX12_comesDot_23 0 rfl ?_
  refine r_sipush C dX12_comesDot_24 rfl ?_
  refine r_dup2 C dX12_comesDot_27 rfl rfl ?_
  refine r_iald C dX12_comesDot_28 0 rfl rfl (by omega) ?_
  refine r_eq (y := (R 141)) ((zU_ne _ _ (by omega)).trans (zU_ne _ _ (by omega))) ?_
  refine r_iconst C dX12_comesDot_29 ?_
  refine r_iadd C dX12_comesDot_30 ?_
  refine r_iast C (ws' := [(q1, aI g 145 (zU (zU (zU R (121 + (R 141)) x) (131 + (R 141)) y) 141 ((R 141) + 1)))]) dX12_comesDot_31 0 rfl rfl (by omega) rfl ?_
  exact e_v C () dX12_comesDot_32 (trivial) rfl
set_option maxHeartbeats 1000000 in
set_option maxRecDepth 100000 in
theorem c_X12_readsDot (l : Launch) (g : Gx) (hM : Nat) (wi : Int) (hi : Int) (mN : Nat) (mC : Nat) (cm : Int) (ca : Int) (mL : Nat) (sc : Int) (qu : Int) (fp : Int) (mT : Nat) (lm : Int) (nw : Int) (nh : Int) (nr : Int) (mF : Nat) (mR : Nat) (mD : Nat) (mA : Nat) (ii : Int) (wo : Int) (wd : Int) (oe : Int) (mK : Nat) (rm : Int) (mH : Nat) (cn : Int) (Tx : Int → Int) (Fr : Int → Int) (k : Int) (kl : 0 ≤ lm ∧ lm ≤ 200) (kT : ∀ k : Int, 0 ≤ k → k < 200 → 0 ≤ Tx k ∧ Tx k ≤ 65535) (kk : 0 ≤ k ∧ k ≤ 200) (kn : 0 ≤ Fr 141 ∧ Fr 141 ≤ 10) (kX : ∀ d : Int, 0 ≤ d → d < 10 → -5 ≤ Fr (121 + d) ∧ Fr (121 + d) ≤ 5) (kY : ∀ d : Int, 0 ≤ d → d < 10 → -5 ≤ Fr (131 + d) ∧ Fr (131 + d) ≤ 5) (sz : Nat) : Met l yX12_readsDot (.code yX12_readsDot cX12_readsDot 4 (some .boolean) :: wsL_law) { frames := 1, cells := 0, slots := 0, locals := 23 } (PR g [.ref hM, vi k] [(hM, oB 11 [vi wi, vi hi, .ref mN, .ref mC, vi cm, vi ca, .ref mL, vi sc, vi qu, vi fp, .ref mT, vi lm, vi nw, vi nh, vi nr, .ref mF, .ref mR, .ref mD, .ref mA, vi ii, vi wo, vi wd, vi oe, .ref mK, vi rm, .ref mH, vi cn]), (mT, aI g 200 Tx), (mF, aI g 145 Fr)] sz) (PI (S := (Int → Int)) g (fun r u_ => (r = 1 ∧ ((-5 ≤ ltr Tx lm (k + 1) - 102 ∧ ltr Tx lm (k + 1) - 102 ≤ 5) ∧ (-5 ≤ ltr Tx lm (k + 2) - 102 ∧ ltr Tx lm (k + 2) - 102 ≤ 5) ∧ Fr 141 < 10 ∧ ∀ d : Int, 0 ≤ d → d < Fr 141 → ¬ (Fr (121 + d) = ltr Tx lm (k + 1) - 102 ∧ Fr (131 + d) = ltr Tx lm (k + 2) - 102)) ∧ u_ = cnR Fr (ltr Tx lm (k + 1) - 102) (ltr Tx lm (k + 2) - 102)) ∨ (r = 0 ∧ ¬ ((-5 ≤ ltr Tx lm (k + 1) - 102 ∧ ltr Tx lm (k + 1) - 102 ≤ 5) ∧ (-5 ≤ ltr Tx lm (k + 2) - 102 ∧ ltr Tx lm (k + 2) - 102 ≤ 5) ∧ Fr 141 < 10 ∧ ∀ d : Int, 0 ≤ d → d < Fr 141 → ¬ (Fr (121 + d) = ltr Tx lm (k + 1) - 102 ∧ Fr (131 + d) = ltr Tx lm (k + 2) - 102)))) (fun u_ => [(hM, oB 11 [vi wi, vi hi, .ref mN, .ref mC, vi cm, vi ca, .ref mL, vi sc, vi qu, vi fp, .ref mT, vi lm, vi nw, vi nh, vi nr, .ref mF, .ref mR, .ref mD, .ref mA, vi ii, vi wo, vi wd, vi oe, .ref mK, vi rm, .ref mH, vi cn]), (mT, aI g 200 Tx), (mF, aI g 145 u_)]) [(hM, oB 11 [vi wi, vi hi, .ref mN, .ref mC, vi cm, vi ca, .ref mL, vi sc, vi qu, vi fp, .ref mT, vi lm, vi nw, vi nh, vi nr, .ref mF, .ref mR, .ref mD, .ref mA, vi ii, vi wo, vi wd, vi oe, .ref mK, vi rm, .ref mH, vi cn]), (mT, aI g 200 Tx), (mF, aI g 145 Fr)] sz) 0 0 (va_A [(hM, oB 11 [vi wi, vi hi, .ref mN, .ref mC, vi cm, vi ca, .ref mL, vi sc, vi qu, vi fp, .ref mT, vi lm, vi nw, vi nh, vi nr, .ref mF, .ref mR, .ref mD, .ref mA, vi ii, vi wo, vi wd, vi oe, .ref mK, vi rm, .ref mH, vi cn]), (mT, aI g 200 Tx), (mF, aI g 145 Fr)] sz) := by
  refine meet (own := RX12) rfl (plainFor_of_name (by decide +kernel)) rfl (fun p_ e_ s_ m_ args_ below_ meth_ c_ C hnm => ?_)
  refine r_at (ws' := [(hM, oB 11 [vi wi, vi hi, .ref mN, .ref mC, vi cm, vi ca, .ref mL, vi sc, vi qu, vi fp, .ref mT, vi lm, vi nw, vi nh, vi nr, .ref mF, .ref mR, .ref mD, .ref mA, vi ii, vi wo, vi wd, vi oe, .ref mK, vi rm, .ref mH, vi cn]), (mT, aI g 200 Tx), (mF, aI g 145 Fr)]) (lv' := [(0, .ref hM), (1, vi k)]) rfl rfl ?_
  have hlb : ∀ j : Int, 0 ≤ ltr Tx lm j ∧ ltr Tx lm j ≤ 65535 := fun j => by unfold ltr; split; exact kT j (by omega) (by omega); omega
  have lb1 := hlb (k + 1)
  have lb2 := hlb (k + 2)
  refine r_aload_n C dX12_readsDot_0 0 rfl ?_
  refine r_iload_n C dX12_readsDot_1 1 rfl ?_
  refine r_iconst C dX12_readsDot_2 ?_
  refine r_iadd C dX12_readsDot_3 ?_
  refine k_Vi C kv_X12_65 (fun sz => c_X12_letter l g hM wi hi mN mC cm ca mL sc qu fp mT lm nw nh nr mF mR mD mA ii wo wd oe mK rm mH cn Tx (k + 1) (by omega) (by omega) sz) dX12_readsDot_4 rfl rfl rfl ⟨rfl, rfl⟩ 0 11 rfl rfl rfl [0, 1] rfl rfl (fun _ => rfl) (ws' := fun u_ => [(hM, oB 11 [vi wi, vi hi, .ref mN, .ref mC, vi cm, vi ca, .ref mL, vi sc, vi qu, vi fp, .ref mT, vi lm, vi nw, vi nh, vi nr, .ref mF, .ref mR, .ref mD, .ref mA, vi ii, vi wo, vi wd, vi oe, .ref mK, vi rm, .ref mH, vi cn]), (mT, aI g 200 Tx), (mF, aI g 145 Fr)]) (fun _ => rfl) (fun r_4 u_ p_4 => ?_)
  have p_4 : r_4 = ltr Tx lm (k + 1) := p_4
  refine r_eq (y := (ltr Tx lm (k + 1))) p_4 ?_
  refine r_bipush C dX12_readsDot_7 rfl ?_
  refine r_isub C dX12_readsDot_9 ?_
  refine r_istore_n C (lv' := [(2, vi ((ltr Tx lm (k + 1)) - 102)), (0, .ref hM), (1, vi k)]) dX12_readsDot_10 rfl rfl ?_
  refine r_aload_n C dX12_readsDot_11 1 rfl ?_
  refine r_iload_n C dX12_readsDot_12 2 rfl ?_
  refine r_iconst C dX12_readsDot_13 ?_
  refine r_iadd C dX12_readsDot_14 ?_
  refine k_Vi C kv_X12_65 (fun sz => c_X12_letter l g hM wi hi mN mC cm ca mL sc qu fp mT lm nw nh nr mF mR mD mA ii wo wd oe mK rm mH cn Tx (k + 2) (by omega) (by omega) sz) dX12_readsDot_15 rfl rfl rfl ⟨rfl, rfl⟩ 0 11 rfl rfl rfl [0, 1] rfl rfl (fun _ => rfl) (ws' := fun u_ => [(hM, oB 11 [vi wi, vi hi, .ref mN, .ref mC, vi cm, vi ca, .ref mL, vi sc, vi qu, vi fp, .ref mT, vi lm, vi nw, vi nh, vi nr, .ref mF, .ref mR, .ref mD, .ref mA, vi ii, vi wo, vi wd, vi oe, .ref mK, vi rm, .ref mH, vi cn]), (mT, aI g 200 Tx), (mF, aI g 145 Fr)]) (fun _ => rfl) (fun r_15 u_ p_15 => ?_)
  have p_15 : r_15 = ltr Tx lm (k + 2) := p_15
  refine r_eq (y := (ltr Tx lm (k + 2))) p_15 ?_
  refine r_bipush C dX12_readsDot_18 rfl ?_
  refine r_isub C dX12_readsDot_20 ?_
  refine r_istore_n C (lv' := [(3, vi ((ltr Tx lm (k + 2)) - 102)), (2, vi ((ltr Tx lm (k + 1)) - 102)), (0, .ref hM), (1, vi k)]) dX12_readsDot_21 rfl rfl ?_
  refine r_iload_n C dX12_readsDot_22 1 rfl ?_
  refine r_bipush C dX12_readsDot_23 rfl ?_
  refine r_iconst C dX12_readsDot_25 ?_
  refine k_Si C ks_X12_58 (fun sz => c_X12_in l g ((ltr Tx lm (k + 1)) - 102) (-5) 5 (by omega) (by omega) (by omega) sz) dX12_readsDot_26 rfl rfl rfl ⟨rfl, rfl⟩ [] rfl rfl (fun _ => rfl) (ws' := fun u_ => [(hM, oB 11 [vi wi, vi hi, .ref mN, .ref mC, vi cm, vi ca, .ref mL, vi sc, vi qu, vi fp, .ref mT, vi lm, vi nw, vi nh, vi nr, .ref mF, .ref mR, .ref mD, .ref mA, vi ii, vi wo, vi wd, vi oe, .ref mK, vi rm, .ref mH, vi cn]), (mT, aI g 200 Tx), (mF, aI g 145 Fr)]) (fun _ => rfl) (fun r_26 u_ p_26 => ?_)
  have p_26 : (r_26 = 1 ∧ (-5) ≤ ((ltr Tx lm (k + 1)) - 102) ∧ ((ltr Tx lm (k + 1)) - 102) ≤ 5) ∨ (r_26 = 0 ∧ ¬ ((-5) ≤ ((ltr Tx lm (k + 1)) - 102) ∧ ((ltr Tx lm (k + 1)) - 102) ≤ 5)) := p_26
  refine r_if_eq C 69 dX12_readsDot_29 rfl (by omega) (fun c_1 => ?_) (fun c_1 => ?_)
  · skip
    refine r_iconst C dX12_readsDot_69 ?_
    exact e_z C Fr dX12_readsDot_70 (by omega) (show (0 = 1 ∧ ((-5 ≤ ltr Tx lm (k + 1) - 102 ∧ ltr Tx lm (k + 1) - 102 ≤ 5) ∧ (-5 ≤ ltr Tx lm (k + 2) - 102 ∧ ltr Tx lm (k + 2) - 102 ≤ 5) ∧ Fr 141 < 10 ∧ ∀ d : Int, 0 ≤ d → d < Fr 141 → ¬ (Fr (121 + d) = ltr Tx lm (k + 1) - 102 ∧ Fr (131 + d) = ltr Tx lm (k + 2) - 102)) ∧ Fr = cnR Fr (ltr Tx lm (k + 1) - 102) (ltr Tx lm (k + 2) - 102)) ∨ (0 = 0 ∧ ¬ ((-5 ≤ ltr Tx lm (k + 1) - 102 ∧ ltr Tx lm (k + 1) - 102 ≤ 5) ∧ (-5 ≤ ltr Tx lm (k + 2) - 102 ∧ ltr Tx lm (k + 2) - 102 ≤ 5) ∧ Fr 141 < 10 ∧ ∀ d : Int, 0 ≤ d → d < Fr 141 → ¬ (Fr (121 + d) = ltr Tx lm (k + 1) - 102 ∧ Fr (131 + d) = ltr Tx lm (k + 2) - 102))) from Or.inr ⟨rfl, fun z => by have := z.1; omega⟩) rfl
  · skip
    refine r_iload_n C dX12_readsDot_32 0 rfl ?_
    refine r_bipush C dX12_readsDot_33 rfl ?_
    refine r_iconst C dX12_readsDot_35 ?_
    refine k_Si C ks_X12_58 (fun sz => c_X12_in l g ((ltr Tx lm (k + 2)) - 102) (-5) 5 (by omega) (by omega) (by omega) sz) dX12_readsDot_36 rfl rfl rfl ⟨rfl, rfl⟩ [] rfl rfl (fun _ => rfl) (ws' := fun u_ => [(hM, oB 11 [vi wi, vi hi, .ref mN, .ref mC, vi cm, vi ca, .ref mL, vi sc, vi qu, vi fp, .ref mT, vi lm, vi nw, vi nh, vi nr, .ref mF, .ref mR, .ref mD, .ref mA, vi ii, vi wo, vi wd, vi oe, .ref mK, vi rm, .ref mH, vi cn]), (mT, aI g 200 Tx), (mF, aI g 145 Fr)]) (fun _ => rfl) (fun r_36 u_ p_36 => ?_)
    have p_36 : (r_36 = 1 ∧ (-5) ≤ ((ltr Tx lm (k + 2)) - 102) ∧ ((ltr Tx lm (k + 2)) - 102) ≤ 5) ∨ (r_36 = 0 ∧ ¬ ((-5) ≤ ((ltr Tx lm (k + 2)) - 102) ∧ ((ltr Tx lm (k + 2)) - 102) ≤ 5)) := p_36
    refine r_if_eq C 69 dX12_readsDot_39 rfl (by omega) (fun c_2 => ?_) (fun c_2 => ?_)
    · skip
      refine r_iconst C dX12_readsDot_69 ?_
      exact e_z C Fr dX12_readsDot_70 (by omega) (show (0 = 1 ∧ ((-5 ≤ ltr Tx lm (k + 1) - 102 ∧ ltr Tx lm (k + 1) - 102 ≤ 5) ∧ (-5 ≤ ltr Tx lm (k + 2) - 102 ∧ ltr Tx lm (k + 2) - 102 ≤ 5) ∧ Fr 141 < 10 ∧ ∀ d : Int, 0 ≤ d → d < Fr 141 → ¬ (Fr (121 + d) = ltr Tx lm (k + 1) - 102 ∧ Fr (131 + d) = ltr Tx lm (k + 2) - 102)) ∧ Fr = cnR Fr (ltr Tx lm (k + 1) - 102) (ltr Tx lm (k + 2) - 102)) ∨ (0 = 0 ∧ ¬ ((-5 ≤ ltr Tx lm (k + 1) - 102 ∧ ltr Tx lm (k + 1) - 102 ≤ 5) ∧ (-5 ≤ ltr Tx lm (k + 2) - 102 ∧ ltr Tx lm (k + 2) - 102 ≤ 5) ∧ Fr 141 < 10 ∧ ∀ d : Int, 0 ≤ d → d < Fr 141 → ¬ (Fr (121 + d) = ltr Tx lm (k + 1) - 102 ∧ Fr (131 + d) = ltr Tx lm (k + 2) - 102))) from Or.inr ⟨rfl, fun z => by have := z.2.1; omega⟩) rfl
    · skip
      refine r_aload_n C dX12_readsDot_42 2 rfl ?_
      refine gf_X12_26 C dX12_readsDot_43 0 rfl rfl ?_
      refine r_sipush C dX12_readsDot_46 rfl ?_
      refine r_iald C dX12_readsDot_49 2 rfl rfl (by omega) ?_
      refine r_bipush C dX12_readsDot_50 rfl ?_
      refine r_icmp_eq C 69 dX12_readsDot_52 rfl (by omega) (fun c_3 => ?_) (fun c_3 => ?_)
      · skip
        refine r_iconst C dX12_readsDot_69 ?_
        exact e_z C Fr dX12_readsDot_70 (by omega) (show (0 = 1 ∧ ((-5 ≤ ltr Tx lm (k + 1) - 102 ∧ ltr Tx lm (k + 1) - 102 ≤ 5) ∧ (-5 ≤ ltr Tx lm (k + 2) - 102 ∧ ltr Tx lm (k + 2) - 102 ≤ 5) ∧ Fr 141 < 10 ∧ ∀ d : Int, 0 ≤ d → d < Fr 141 → ¬ (Fr (121 + d) = ltr Tx lm (k + 1) - 102 ∧ Fr (131 + d) = ltr Tx lm (k + 2) - 102)) ∧ Fr = cnR Fr (ltr Tx lm (k + 1) - 102) (ltr Tx lm (k + 2) - 102)) ∨ (0 = 0 ∧ ¬ ((-5 ≤ ltr Tx lm (k + 1) - 102 ∧ ltr Tx lm (k + 1) - 102 ≤ 5) ∧ (-5 ≤ ltr Tx lm (k + 2) - 102 ∧ ltr Tx lm (k + 2) - 102 ≤ 5) ∧ Fr 141 < 10 ∧ ∀ d : Int, 0 ≤ d → d < Fr 141 → ¬ (Fr (121 + d) = ltr Tx lm (k + 1) - 102 ∧ Fr (131 + d) = ltr Tx lm (k + 2) - 102))) from Or.inr ⟨rfl, fun z => by have := z.2.2.1; omega⟩) rfl
      · skip
        have k10 : Fr 141 < 10 := by omega
        have hin1 : (-5 ≤ ltr Tx lm (k + 1) - 102 ∧ ltr Tx lm (k + 1) - 102 ≤ 5) ∧ (-5 ≤ ltr Tx lm (k + 2) - 102 ∧ ltr Tx lm (k + 2) - 102 ≤ 5) := by omega
        refine r_aload_n C dX12_readsDot_55 2 rfl ?_
        refine gf_X12_26 C dX12_readsDot_56 0 rfl rfl ?_
        refine r_iload_n C dX12_readsDot_59 1 rfl ?_
        refine r_iload_n C dX12_readsDot_60 0 rfl ?_
        refine k_Si C ks_X12_81 (fun sz => c_X12_dotAt l g mF Fr ((ltr Tx lm (k + 1)) - 102) ((ltr Tx lm (k + 2)) - 102) kn kX kY (by omega) (by omega) sz) dX12_readsDot_61 rfl rfl rfl ⟨rfl, rfl⟩ [2] rfl rfl (fun _ => rfl) (ws' := fun u_ => [(hM, oB 11 [vi wi, vi hi, .ref mN, .ref mC, vi cm, vi ca, .ref mL, vi sc, vi qu, vi fp, .ref mT, vi lm, vi nw, vi nh, vi nr, .ref mF, .ref mR, .ref mD, .ref mA, vi ii, vi wo, vi wd, vi oe, .ref mK, vi rm, .ref mH, vi cn]), (mT, aI g 200 Tx), (mF, aI g 145 Fr)]) (fun _ => rfl) (fun r_61 u_ p_61 => ?_)
        have p_61 : (r_61 = -4 ∧ ∀ d : Int, 0 ≤ d → d < Fr 141 → ¬ (Fr (121 + d) = ((ltr Tx lm (k + 1)) - 102) ∧ Fr (131 + d) = ((ltr Tx lm (k + 2)) - 102))) ∨ (0 ≤ r_61 ∧ r_61 ≤ 10 ∧ ∃ d : Int, 0 ≤ d ∧ d < Fr 141 ∧ Fr (121 + d) = ((ltr Tx lm (k + 1)) - 102) ∧ Fr (131 + d) = ((ltr Tx lm (k + 2)) - 102)) := p_61
        have r61 : r_61 = -4 ∨ 0 ≤ r_61 ∧ r_61 ≤ 10 := by rcases p_61 with z | z; exact Or.inl z.1; exact Or.inr ⟨z.1, z.2.1⟩
        have p61 := p_61
        clear p_61
        refine r_bipush C dX12_readsDot_64 rfl ?_
        refine r_icmp_eq C 71 dX12_readsDot_66 rfl (by clear p61; omega) (fun c_4 => ?_) (fun c_4 => ?_)
        · skip
          refine r_aload_n C dX12_readsDot_71 2 rfl ?_
          refine gf_X12_26 C dX12_readsDot_72 0 rfl rfl ?_
          refine r_iload_n C dX12_readsDot_75 1 rfl ?_
          refine r_iload_n C dX12_readsDot_76 0 rfl ?_
          refine k_Sv C ks_X12_54 (fun sz => c_X12_comesDot l g mF Fr ((ltr Tx lm (k + 1)) - 102) ((ltr Tx lm (k + 2)) - 102) (by omega) sz) dX12_readsDot_77 rfl rfl rfl ⟨rfl, rfl⟩ [2] rfl rfl (fun _ => rfl) (ws' := fun u_ => [(hM, oB 11 [vi wi, vi hi, .ref mN, .ref mC, vi cm, vi ca, .ref mL, vi sc, vi qu, vi fp, .ref mT, vi lm, vi nw, vi nh, vi nr, .ref mF, .ref mR, .ref mD, .ref mA, vi ii, vi wo, vi wd, vi oe, .ref mK, vi rm, .ref mH, vi cn]), (mT, aI g 200 Tx), (mF, aI g 145 (cnR Fr ((ltr Tx lm (k + 1)) - 102) ((ltr Tx lm (k + 2)) - 102)))]) (fun _ => rfl) (fun u_ p_77 => ?_)
          refine r_iconst C dX12_readsDot_80 ?_
          exact e_z C (cnR Fr ((ltr Tx lm (k + 1)) - 102) ((ltr Tx lm (k + 2)) - 102)) dX12_readsDot_81 (by omega) (show (1 = 1 ∧ ((-5 ≤ ltr Tx lm (k + 1) - 102 ∧ ltr Tx lm (k + 1) - 102 ≤ 5) ∧ (-5 ≤ ltr Tx lm (k + 2) - 102 ∧ ltr Tx lm (k + 2) - 102 ≤ 5) ∧ Fr 141 < 10 ∧ ∀ d : Int, 0 ≤ d → d < Fr 141 → ¬ (Fr (121 + d) = ltr Tx lm (k + 1) - 102 ∧ Fr (131 + d) = ltr Tx lm (k + 2) - 102)) ∧ (cnR Fr ((ltr Tx lm (k + 1)) - 102) ((ltr Tx lm (k + 2)) - 102)) = cnR Fr (ltr Tx lm (k + 1) - 102) (ltr Tx lm (k + 2) - 102)) ∨ (1 = 0 ∧ ¬ ((-5 ≤ ltr Tx lm (k + 1) - 102 ∧ ltr Tx lm (k + 1) - 102 ≤ 5) ∧ (-5 ≤ ltr Tx lm (k + 2) - 102 ∧ ltr Tx lm (k + 2) - 102 ≤ 5) ∧ Fr 141 < 10 ∧ ∀ d : Int, 0 ≤ d → d < Fr 141 → ¬ (Fr (121 + d) = ltr Tx lm (k + 1) - 102 ∧ Fr (131 + d) = ltr Tx lm (k + 2) - 102))) from Or.inl ⟨rfl, ⟨hin1.1, hin1.2, k10, by rcases p61 with z | z; exact z.2; omega⟩, rfl⟩) rfl
        · skip
          refine r_iconst C dX12_readsDot_69 ?_
          exact e_z C Fr dX12_readsDot_70 (by omega) (show (0 = 1 ∧ ((-5 ≤ ltr Tx lm (k + 1) - 102 ∧ ltr Tx lm (k + 1) - 102 ≤ 5) ∧ (-5 ≤ ltr Tx lm (k + 2) - 102 ∧ ltr Tx lm (k + 2) - 102 ≤ 5) ∧ Fr 141 < 10 ∧ ∀ d : Int, 0 ≤ d → d < Fr 141 → ¬ (Fr (121 + d) = ltr Tx lm (k + 1) - 102 ∧ Fr (131 + d) = ltr Tx lm (k + 2) - 102)) ∧ Fr = cnR Fr (ltr Tx lm (k + 1) - 102) (ltr Tx lm (k + 2) - 102)) ∨ (0 = 0 ∧ ¬ ((-5 ≤ ltr Tx lm (k + 1) - 102 ∧ ltr Tx lm (k + 1) - 102 ≤ 5) ∧ (-5 ≤ ltr Tx lm (k + 2) - 102 ∧ ltr Tx lm (k + 2) - 102 ≤ 5) ∧ Fr 141 < 10 ∧ ∀ d : Int, 0 ≤ d → d < Fr 141 → ¬ (Fr (121 + d) = ltr Tx lm (k + 1) - 102 ∧ Fr (131 + d) = ltr Tx lm (k + 2) - 102))) from Or.inr ⟨rfl, fun z => by rcases p61 with q | ⟨-, -, d, d0, d1, d2⟩; omega; exact z.2.2.2 d d0 d1 d2⟩) rfl
set_option maxHeartbeats 1000000 in
set_option maxRecDepth 100000 in
theorem c_X12_readsMeasure (l : Launch) (g : Gx) (hM : Nat) (wi : Int) (hi : Int) (mN : Nat) (mC : Nat) (cm : Int) (ca : Int) (mL : Nat) (sc : Int) (qu : Int) (fp : Int) (mT : Nat) (lm : Int) (nw : Int) (nh : Int) (nr : Int) (mF : Nat) (mR : Nat) (mD : Nat) (mA : Nat) (ii : Int) (wo : Int) (wd : Int) (oe : Int) (mK : Nat) (rm : Int) (mH : Nat) (cn : Int) (Tx : Int → Int) (Fr : Int → Int) (k : Int) (kl : 0 ≤ lm ∧ lm ≤ 200) (kT : ∀ k : Int, 0 ≤ k → k < 200 → 0 ≤ Tx k ∧ Tx k ≤ 65535) (kk : 0 ≤ k ∧ k ≤ 200) (sz : Nat) : Met l yX12_readsMeasure (.code yX12_readsMeasure cX12_readsMeasure 6 (some .boolean) :: wsL_law) { frames := 1, cells := 0, slots := 0, locals := 22 } (PR g [.ref hM, vi k] [(hM, oB 11 [vi wi, vi hi, .ref mN, .ref mC, vi cm, vi ca, .ref mL, vi sc, vi qu, vi fp, .ref mT, vi lm, vi nw, vi nh, vi nr, .ref mF, .ref mR, .ref mD, .ref mA, vi ii, vi wo, vi wd, vi oe, .ref mK, vi rm, .ref mH, vi cn]), (mT, aI g 200 Tx), (mF, aI g 145 Fr)] sz) (PI (S := Unit) g (fun r u_ => (r = 1 ∧ (0 ≤ ltr Tx lm (k + 1) - 48 ∧ ltr Tx lm (k + 1) - 48 ≤ 2) ∧ (0 ≤ ltr Tx lm (k + 2) - 48 ∧ ltr Tx lm (k + 2) - 48 ≤ 9) ∧ (0 ≤ ltr Tx lm (k + 3) - 48 ∧ ltr Tx lm (k + 3) - 48 ≤ 9) ∧ ¬ ltr Tx lm (k + 2) - 48 + (ltr Tx lm (k + 3) - 48) = 0) ∨ (r = 0 ∧ ¬ ((0 ≤ ltr Tx lm (k + 1) - 48 ∧ ltr Tx lm (k + 1) - 48 ≤ 2) ∧ (0 ≤ ltr Tx lm (k + 2) - 48 ∧ ltr Tx lm (k + 2) - 48 ≤ 9) ∧ (0 ≤ ltr Tx lm (k + 3) - 48 ∧ ltr Tx lm (k + 3) - 48 ≤ 9) ∧ ¬ ltr Tx lm (k + 2) - 48 + (ltr Tx lm (k + 3) - 48) = 0))) (fun u_ => [(hM, oB 11 [vi wi, vi hi, .ref mN, .ref mC, vi cm, vi ca, .ref mL, vi sc, vi qu, vi fp, .ref mT, vi lm, vi nw, vi nh, vi nr, .ref mF, .ref mR, .ref mD, .ref mA, vi ii, vi wo, vi wd, vi oe, .ref mK, vi rm, .ref mH, vi cn]), (mT, aI g 200 Tx), (mF, aI g 145 (zU (zU Fr 142 (ltr Tx lm (k + 1) - 48)) 143 (10 * (ltr Tx lm (k + 2) - 48) + (ltr Tx lm (k + 3) - 48))))]) [(hM, oB 11 [vi wi, vi hi, .ref mN, .ref mC, vi cm, vi ca, .ref mL, vi sc, vi qu, vi fp, .ref mT, vi lm, vi nw, vi nh, vi nr, .ref mF, .ref mR, .ref mD, .ref mA, vi ii, vi wo, vi wd, vi oe, .ref mK, vi rm, .ref mH, vi cn]), (mT, aI g 200 Tx), (mF, aI g 145 Fr)] sz) 0 0 (va_A [(hM, oB 11 [vi wi, vi hi, .ref mN, .ref mC, vi cm, vi ca, .ref mL, vi sc, vi qu, vi fp, .ref mT, vi lm, vi nw, vi nh, vi nr, .ref mF, .ref mR, .ref mD, .ref mA, vi ii, vi wo, vi wd, vi oe, .ref mK, vi rm, .ref mH, vi cn]), (mT, aI g 200 Tx), (mF, aI g 145 Fr)] sz) := by
  refine meet (own := RX12) rfl (plainFor_of_name (by decide +kernel)) rfl (fun p_ e_ s_ m_ args_ below_ meth_ c_ C hnm => ?_)
  refine r_at (ws' := [(hM, oB 11 [vi wi, vi hi, .ref mN, .ref mC, vi cm, vi ca, .ref mL, vi sc, vi qu, vi fp, .ref mT, vi lm, vi nw, vi nh, vi nr, .ref mF, .ref mR, .ref mD, .ref mA, vi ii, vi wo, vi wd, vi oe, .ref mK, vi rm, .ref mH, vi cn]), (mT, aI g 200 Tx), (mF, aI g 145 Fr)]) (lv' := [(0, .ref hM), (1, vi k)]) rfl rfl ?_
  have hlb : ∀ j : Int, 0 ≤ ltr Tx lm j ∧ ltr Tx lm j ≤ 65535 := fun j => by unfold ltr; split; exact kT j (by omega) (by omega); omega
  have lb1 := hlb (k + 1)
  have lb2 := hlb (k + 2)
  have lb3 := hlb (k + 3)
  refine r_aload_n C dX12_readsMeasure_0 0 rfl ?_
  refine r_iload_n C dX12_readsMeasure_1 1 rfl ?_
  refine r_iconst C dX12_readsMeasure_2 ?_
  refine r_iadd C dX12_readsMeasure_3 ?_
  refine k_Vi C kv_X12_65 (fun sz => c_X12_letter l g hM wi hi mN mC cm ca mL sc qu fp mT lm nw nh nr mF mR mD mA ii wo wd oe mK rm mH cn Tx (k + 1) (by omega) (by omega) sz) dX12_readsMeasure_4 rfl rfl rfl ⟨rfl, rfl⟩ 0 11 rfl rfl rfl [0, 1] rfl rfl (fun _ => rfl) (ws' := fun u_ => [(hM, oB 11 [vi wi, vi hi, .ref mN, .ref mC, vi cm, vi ca, .ref mL, vi sc, vi qu, vi fp, .ref mT, vi lm, vi nw, vi nh, vi nr, .ref mF, .ref mR, .ref mD, .ref mA, vi ii, vi wo, vi wd, vi oe, .ref mK, vi rm, .ref mH, vi cn]), (mT, aI g 200 Tx), (mF, aI g 145 Fr)]) (fun _ => rfl) (fun r_4 u_ p_4 => ?_)
  have p_4 : r_4 = ltr Tx lm (k + 1) := p_4
  refine r_eq (y := (ltr Tx lm (k + 1))) p_4 ?_
  refine r_bipush C dX12_readsMeasure_7 rfl ?_
  refine r_isub C dX12_readsMeasure_9 ?_
  refine r_istore_n C (lv' := [(2, vi ((ltr Tx lm (k + 1)) - 48)), (0, .ref hM), (1, vi k)]) dX12_readsMeasure_10 rfl rfl ?_
  refine r_aload_n C dX12_readsMeasure_11 1 rfl ?_
  refine r_iload_n C dX12_readsMeasure_12 2 rfl ?_
  refine r_iconst C dX12_readsMeasure_13 ?_
  refine r_iadd C dX12_readsMeasure_14 ?_
  refine k_Vi C kv_X12_65 (fun sz => c_X12_letter l g hM wi hi mN mC cm ca mL sc qu fp mT lm nw nh nr mF mR mD mA ii wo wd oe mK rm mH cn Tx (k + 2) (by omega) (by omega) sz) dX12_readsMeasure_15 rfl rfl rfl ⟨rfl, rfl⟩ 0 11 rfl rfl rfl [0, 1] rfl rfl (fun _ => rfl) (ws' := fun u_ => [(hM, oB 11 [vi wi, vi hi, .ref mN, .ref mC, vi cm, vi ca, .ref mL, vi sc, vi qu, vi fp, .ref mT, vi lm, vi nw, vi nh, vi nr, .ref mF, .ref mR, .ref mD, .ref mA, vi ii, vi wo, vi wd, vi oe, .ref mK, vi rm, .ref mH, vi cn]), (mT, aI g 200 Tx), (mF, aI g 145 Fr)]) (fun _ => rfl) (fun r_15 u_ p_15 => ?_)
  have p_15 : r_15 = ltr Tx lm (k + 2) := p_15
  refine r_eq (y := (ltr Tx lm (k + 2))) p_15 ?_
  refine r_bipush C dX12_readsMeasure_18 rfl ?_
  refine r_isub C dX12_readsMeasure_20 ?_
  refine r_istore_n C (lv' := [(3, vi ((ltr Tx lm (k + 2)) - 48)), (2, vi ((ltr Tx lm (k + 1)) - 48)), (0, .ref hM), (1, vi k)]) dX12_readsMeasure_21 rfl rfl ?_
  refine r_aload_n C dX12_readsMeasure_22 2 rfl ?_
  refine r_iload_n C dX12_readsMeasure_23 3 rfl ?_
  refine r_iconst C dX12_readsMeasure_24 ?_
  refine r_iadd C dX12_readsMeasure_25 ?_
  refine k_Vi C kv_X12_65 (fun sz => c_X12_letter l g hM wi hi mN mC cm ca mL sc qu fp mT lm nw nh nr mF mR mD mA ii wo wd oe mK rm mH cn Tx (k + 3) (by omega) (by omega) sz) dX12_readsMeasure_26 rfl rfl rfl ⟨rfl, rfl⟩ 0 11 rfl rfl rfl [0, 1] rfl rfl (fun _ => rfl) (ws' := fun u_ => [(hM, oB 11 [vi wi, vi hi, .ref mN, .ref mC, vi cm, vi ca, .ref mL, vi sc, vi qu, vi fp, .ref mT, vi lm, vi nw, vi nh, vi nr, .ref mF, .ref mR, .ref mD, .ref mA, vi ii, vi wo, vi wd, vi oe, .ref mK, vi rm, .ref mH, vi cn]), (mT, aI g 200 Tx), (mF, aI g 145 Fr)]) (fun _ => rfl) (fun r_26 u_ p_26 => ?_)
  have p_26 : r_26 = ltr Tx lm (k + 3) := p_26
  refine r_eq (y := (ltr Tx lm (k + 3))) p_26 ?_
  refine r_bipush C dX12_readsMeasure_29 rfl ?_
  refine r_isub C dX12_readsMeasure_31 ?_
  refine r_istore C (lv' := [(4, vi ((ltr Tx lm (k + 3)) - 48)), (3, vi ((ltr Tx lm (k + 2)) - 48)), (2, vi ((ltr Tx lm (k + 1)) - 48)), (0, .ref hM), (1, vi k)]) dX12_readsMeasure_32 rfl rfl ?_
  refine r_join (σ := Int) 76 (fun z_ => ((z_ = 1 ∧ (0 ≤ ltr Tx lm (k + 1) - 48 ∧ ltr Tx lm (k + 1) - 48 ≤ 2) ∧ (0 ≤ ltr Tx lm (k + 2) - 48 ∧ ltr Tx lm (k + 2) - 48 ≤ 9) ∧ (0 ≤ ltr Tx lm (k + 3) - 48 ∧ ltr Tx lm (k + 3) - 48 ≤ 9) ∧ ¬ ltr Tx lm (k + 2) - 48 + (ltr Tx lm (k + 3) - 48) = 0) ∨ (z_ = 0 ∧ ¬ ((0 ≤ ltr Tx lm (k + 1) - 48 ∧ ltr Tx lm (k + 1) - 48 ≤ 2) ∧ (0 ≤ ltr Tx lm (k + 2) - 48 ∧ ltr Tx lm (k + 2) - 48 ≤ 9) ∧ (0 ≤ ltr Tx lm (k + 3) - 48 ∧ ltr Tx lm (k + 3) - 48 ≤ 9) ∧ ¬ ltr Tx lm (k + 2) - 48 + (ltr Tx lm (k + 3) - 48) = 0)))) (fun z_ => [(hM, oB 11 [vi wi, vi hi, .ref mN, .ref mC, vi cm, vi ca, .ref mL, vi sc, vi qu, vi fp, .ref mT, vi lm, vi nw, vi nh, vi nr, .ref mF, .ref mR, .ref mD, .ref mA, vi ii, vi wo, vi wd, vi oe, .ref mK, vi rm, .ref mH, vi cn]), (mT, aI g 200 Tx), (mF, aI g 145 Fr)]) (fun z_ => [(4, vi ((ltr Tx lm (k + 3)) - 48)), (3, vi ((ltr Tx lm (k + 2)) - 48)), (2, vi ((ltr Tx lm (k + 1)) - 48)), (0, .ref hM), (1, vi k)]) (fun z_ => [vi z_]) (fun z_ hz => ?_) (fun J_76 => ?_)
  rotate_left
  · skip
    refine r_iload_n C dX12_readsMeasure_34 2 rfl ?_
    refine r_iconst C dX12_readsMeasure_35 ?_
    refine r_iconst C dX12_readsMeasure_36 ?_
    refine k_Si C ks_X12_58 (fun sz => c_X12_in l g ((ltr Tx lm (k + 1)) - 48) 0 2 (by omega) (by omega) (by omega) sz) dX12_readsMeasure_37 rfl rfl rfl ⟨rfl, rfl⟩ [] rfl rfl (fun _ => rfl) (ws' := fun u_ => [(hM, oB 11 [vi wi, vi hi, .ref mN, .ref mC, vi cm, vi ca, .ref mL, vi sc, vi qu, vi fp, .ref mT, vi lm, vi nw, vi nh, vi nr, .ref mF, .ref mR, .ref mD, .ref mA, vi ii, vi wo, vi wd, vi oe, .ref mK, vi rm, .ref mH, vi cn]), (mT, aI g 200 Tx), (mF, aI g 145 Fr)]) (fun _ => rfl) (fun r_37 u_ p_37 => ?_)
    have p_37 : (r_37 = 1 ∧ 0 ≤ ((ltr Tx lm (k + 1)) - 48) ∧ ((ltr Tx lm (k + 1)) - 48) ≤ 2) ∨ (r_37 = 0 ∧ ¬ (0 ≤ ((ltr Tx lm (k + 1)) - 48) ∧ ((ltr Tx lm (k + 1)) - 48) ≤ 2)) := p_37
    refine r_if_eq C 75 dX12_readsMeasure_40 rfl (by omega) (fun c_1 => ?_) (fun c_1 => ?_)
    · skip
      refine r_iconst C dX12_readsMeasure_75 ?_
      refine r_lv (lv' := [(4, vi ((ltr Tx lm (k + 3)) - 48)), (3, vi ((ltr Tx lm (k + 2)) - 48)), (2, vi ((ltr Tx lm (k + 1)) - 48)), (0, .ref hM), (1, vi k)]) [0, 1, 2, 3, 4] rfl ?_
      exact J_76 0 (show ((0 = 1 ∧ (0 ≤ ltr Tx lm (k + 1) - 48 ∧ ltr Tx lm (k + 1) - 48 ≤ 2) ∧ (0 ≤ ltr Tx lm (k + 2) - 48 ∧ ltr Tx lm (k + 2) - 48 ≤ 9) ∧ (0 ≤ ltr Tx lm (k + 3) - 48 ∧ ltr Tx lm (k + 3) - 48 ≤ 9) ∧ ¬ ltr Tx lm (k + 2) - 48 + (ltr Tx lm (k + 3) - 48) = 0) ∨ (0 = 0 ∧ ¬ ((0 ≤ ltr Tx lm (k + 1) - 48 ∧ ltr Tx lm (k + 1) - 48 ≤ 2) ∧ (0 ≤ ltr Tx lm (k + 2) - 48 ∧ ltr Tx lm (k + 2) - 48 ≤ 9) ∧ (0 ≤ ltr Tx lm (k + 3) - 48 ∧ ltr Tx lm (k + 3) - 48 ≤ 9) ∧ ¬ ltr Tx lm (k + 2) - 48 + (ltr Tx lm (k + 3) - 48) = 0))) from (by omega))
    · skip
      refine r_iload_n C dX12_readsMeasure_43 1 rfl ?_
      refine r_iconst C dX12_readsMeasure_44 ?_
      refine r_bipush C dX12_readsMeasure_45 rfl ?_
      refine k_Si C ks_X12_58 (fun sz => c_X12_in l g ((ltr Tx lm (k + 2)) - 48) 0 9 (by omega) (by omega) (by omega) sz) dX12_readsMeasure_47 rfl rfl rfl ⟨rfl, rfl⟩ [] rfl rfl (fun _ => rfl) (ws' := fun u_ => [(hM, oB 11 [vi wi, vi hi, .ref mN, .ref mC, vi cm, vi ca, .ref mL, vi sc, vi qu, vi fp, .ref mT, vi lm, vi nw, vi nh, vi nr, .ref mF, .ref mR, .ref mD, .ref mA, vi ii, vi wo, vi wd, vi oe, .ref mK, vi rm, .ref mH, vi cn]), (mT, aI g 200 Tx), (mF, aI g 145 Fr)]) (fun _ => rfl) (fun r_47 u_ p_47 => ?_)
      have p_47 : (r_47 = 1 ∧ 0 ≤ ((ltr Tx lm (k + 2)) - 48) ∧ ((ltr Tx lm (k + 2)) - 48) ≤ 9) ∨ (r_47 = 0 ∧ ¬ (0 ≤ ((ltr Tx lm (k + 2)) - 48) ∧ ((ltr Tx lm (k + 2)) - 48) ≤ 9)) := p_47
      refine r_if_eq C 75 dX12_readsMeasure_50 rfl (by omega) (fun c_2 => ?_) (fun c_2 => ?_)
      · skip
        refine r_iconst C dX12_readsMeasure_75 ?_
        refine r_lv (lv' := [(4, vi ((ltr Tx lm (k + 3)) - 48)), (3, vi ((ltr Tx lm (k + 2)) - 48)), (2, vi ((ltr Tx lm (k + 1)) - 48)), (0, .ref hM), (1, vi k)]) [0, 1, 2, 3, 4] rfl ?_
        exact J_76 0 (show ((0 = 1 ∧ (0 ≤ ltr Tx lm (k + 1) - 48 ∧ ltr Tx lm (k + 1) - 48 ≤ 2) ∧ (0 ≤ ltr Tx lm (k + 2) - 48 ∧ ltr Tx lm (k + 2) - 48 ≤ 9) ∧ (0 ≤ ltr Tx lm (k + 3) - 48 ∧ ltr Tx lm (k + 3) - 48 ≤ 9) ∧ ¬ ltr Tx lm (k + 2) - 48 + (ltr Tx lm (k + 3) - 48) = 0) ∨ (0 = 0 ∧ ¬ ((0 ≤ ltr Tx lm (k + 1) - 48 ∧ ltr Tx lm (k + 1) - 48 ≤ 2) ∧ (0 ≤ ltr Tx lm (k + 2) - 48 ∧ ltr Tx lm (k + 2) - 48 ≤ 9) ∧ (0 ≤ ltr Tx lm (k + 3) - 48 ∧ ltr Tx lm (k + 3) - 48 ≤ 9) ∧ ¬ ltr Tx lm (k + 2) - 48 + (ltr Tx lm (k + 3) - 48) = 0))) from (by omega))
      · skip
        refine r_iload C dX12_readsMeasure_53 0 rfl ?_
        refine r_iconst C dX12_readsMeasure_55 ?_
        refine r_bipush C dX12_readsMeasure_56 rfl ?_
        refine k_Si C ks_X12_58 (fun sz => c_X12_in l g ((ltr Tx lm (k + 3)) - 48) 0 9 (by omega) (by omega) (by omega) sz) dX12_readsMeasure_58 rfl rfl rfl ⟨rfl, rfl⟩ [] rfl rfl (fun _ => rfl) (ws' := fun u_ => [(hM, oB 11 [vi wi, vi hi, .ref mN, .ref mC, vi cm, vi ca, .ref mL, vi sc, vi qu, vi fp, .ref mT, vi lm, vi nw, vi nh, vi nr, .ref mF, .ref mR, .ref mD, .ref mA, vi ii, vi wo, vi wd, vi oe, .ref mK, vi rm, .ref mH, vi cn]), (mT, aI g 200 Tx), (mF, aI g 145 Fr)]) (fun _ => rfl) (fun r_58 u_ p_58 => ?_)
        have p_58 : (r_58 = 1 ∧ 0 ≤ ((ltr Tx lm (k + 3)) - 48) ∧ ((ltr Tx lm (k + 3)) - 48) ≤ 9) ∨ (r_58 = 0 ∧ ¬ (0 ≤ ((ltr Tx lm (k + 3)) - 48) ∧ ((ltr Tx lm (k + 3)) - 48) ≤ 9)) := p_58
        refine r_if_eq C 75 dX12_readsMeasure_61 rfl (by omega) (fun c_3 => ?_) (fun c_3 => ?_)
        · skip
          refine r_iconst C dX12_readsMeasure_75 ?_
          refine r_lv (lv' := [(4, vi ((ltr Tx lm (k + 3)) - 48)), (3, vi ((ltr Tx lm (k + 2)) - 48)), (2, vi ((ltr Tx lm (k + 1)) - 48)), (0, .ref hM), (1, vi k)]) [0, 1, 2, 3, 4] rfl ?_
          exact J_76 0 (show ((0 = 1 ∧ (0 ≤ ltr Tx lm (k + 1) - 48 ∧ ltr Tx lm (k + 1) - 48 ≤ 2) ∧ (0 ≤ ltr Tx lm (k + 2) - 48 ∧ ltr Tx lm (k + 2) - 48 ≤ 9) ∧ (0 ≤ ltr Tx lm (k + 3) - 48 ∧ ltr Tx lm (k + 3) - 48 ≤ 9) ∧ ¬ ltr Tx lm (k + 2) - 48 + (ltr Tx lm (k + 3) - 48) = 0) ∨ (0 = 0 ∧ ¬ ((0 ≤ ltr Tx lm (k + 1) - 48 ∧ ltr Tx lm (k + 1) - 48 ≤ 2) ∧ (0 ≤ ltr Tx lm (k + 2) - 48 ∧ ltr Tx lm (k + 2) - 48 ≤ 9) ∧ (0 ≤ ltr Tx lm (k + 3) - 48 ∧ ltr Tx lm (k + 3) - 48 ≤ 9) ∧ ¬ ltr Tx lm (k + 2) - 48 + (ltr Tx lm (k + 3) - 48) = 0))) from (by omega))
        · skip
          refine r_iload_n C dX12_readsMeasure_64 1 rfl ?_
          refine r_iload C dX12_readsMeasure_65 0 rfl ?_
          refine r_iadd C dX12_readsMeasure_67 ?_
          refine r_if_le C 75 dX12_readsMeasure_68 rfl (by omega) (fun c_4 => ?_) (fun c_4 => ?_)
          · skip
            refine r_iconst C dX12_readsMeasure_75 ?_
            refine r_lv (lv' := [(4, vi ((ltr Tx lm (k + 3)) - 48)), (3, vi ((ltr Tx lm (k + 2)) - 48)), (2, vi ((ltr Tx lm (k + 1)) - 48)), (0, .ref hM), (1, vi k)]) [0, 1, 2, 3, 4] rfl ?_
            exact J_76 0 (show ((0 = 1 ∧ (0 ≤ ltr Tx lm (k + 1) - 48 ∧ ltr Tx lm (k + 1) - 48 ≤ 2) ∧ (0 ≤ ltr Tx lm (k + 2) - 48 ∧ ltr Tx lm (k + 2) - 48 ≤ 9) ∧ (0 ≤ ltr Tx lm (k + 3) - 48 ∧ ltr Tx lm (k + 3) - 48 ≤ 9) ∧ ¬ ltr Tx lm (k + 2) - 48 + (ltr Tx lm (k + 3) - 48) = 0) ∨ (0 = 0 ∧ ¬ ((0 ≤ ltr Tx lm (k + 1) - 48 ∧ ltr Tx lm (k + 1) - 48 ≤ 2) ∧ (0 ≤ ltr Tx lm (k + 2) - 48 ∧ ltr Tx lm (k + 2) - 48 ≤ 9) ∧ (0 ≤ ltr Tx lm (k + 3) - 48 ∧ ltr Tx lm (k + 3) - 48 ≤ 9) ∧ ¬ ltr Tx lm (k + 2) - 48 + (ltr Tx lm (k + 3) - 48) = 0))) from (by omega))
          · skip
            refine r_iconst C dX12_readsMeasure_71 ?_
            refine r_goto C 76 dX12_readsMeasure_72 rfl ?_
            refine r_lv (lv' := [(4, vi ((ltr Tx lm (k + 3)) - 48)), (3, vi ((ltr Tx lm (k + 2)) - 48)), (2, vi ((ltr Tx lm (k + 1)) - 48)), (0, .ref hM), (1, vi k)]) [0, 1, 2, 3, 4] rfl ?_
            exact J_76 1 (show ((1 = 1 ∧ (0 ≤ ltr Tx lm (k + 1) - 48 ∧ ltr Tx lm (k + 1) - 48 ≤ 2) ∧ (0 ≤ ltr Tx lm (k + 2) - 48 ∧ ltr Tx lm (k + 2) - 48 ≤ 9) ∧ (0 ≤ ltr Tx lm (k + 3) - 48 ∧ ltr Tx lm (k + 3) - 48 ≤ 9) ∧ ¬ ltr Tx lm (k + 2) - 48 + (ltr Tx lm (k + 3) - 48) = 0) ∨ (1 = 0 ∧ ¬ ((0 ≤ ltr Tx lm (k + 1) - 48 ∧ ltr Tx lm (k + 1) - 48 ≤ 2) ∧ (0 ≤ ltr Tx lm (k + 2) - 48 ∧ ltr Tx lm (k + 2) - 48 ≤ 9) ∧ (0 ≤ ltr Tx lm (k + 3) - 48 ∧ ltr Tx lm (k + 3) - 48 ≤ 9) ∧ ¬ ltr Tx lm (k + 2) - 48 + (ltr Tx lm (k + 3) - 48) = 0))) from (by omega))
  obtain ⟨z, rfl⟩ : ∃ w_, w_ = z_ := ⟨_, rfl⟩
  have jz := hz
  have jz : (z = 1 ∧ (0 ≤ ltr Tx lm (k + 1) - 48 ∧ ltr Tx lm (k + 1) - 48 ≤ 2) ∧ (0 ≤ ltr Tx lm (k + 2) - 48 ∧ ltr Tx lm (k + 2) - 48 ≤ 9) ∧ (0 ≤ ltr Tx lm (k + 3) - 48 ∧ ltr Tx lm (k + 3) - 48 ≤ 9) ∧ ¬ ltr Tx lm (k + 2) - 48 + (ltr Tx lm (k + 3) - 48) = 0) ∨ (z = 0 ∧ ¬ ((0 ≤ ltr Tx lm (k + 1) - 48 ∧ ltr Tx lm (k + 1) - 48 ≤ 2) ∧ (0 ≤ ltr Tx lm (k + 2) - 48 ∧ ltr Tx lm (k + 2) - 48 ≤ 9) ∧ (0 ≤ ltr Tx lm (k + 3) - 48 ∧ ltr Tx lm (k + 3) - 48 ≤ 9) ∧ ¬ ltr Tx lm (k + 2) - 48 + (ltr Tx lm (k + 3) - 48) = 0)) := jz
  refine r_at3 (ws' := [(hM, oB 11 [vi wi, vi hi, .ref mN, .ref mC, vi cm, vi ca, .ref mL, vi sc, vi qu, vi fp, .ref mT, vi lm, vi nw, vi nh, vi nr, .ref mF, .ref mR, .ref mD, .ref mA, vi ii, vi wo, vi wd, vi oe, .ref mK, vi rm, .ref mH, vi cn]), (mT, aI g 200 Tx), (mF, aI g 145 Fr)]) (lv' := [(4, vi ((ltr Tx lm (k + 3)) - 48)), (3, vi ((ltr Tx lm (k + 2)) - 48)), (2, vi ((ltr Tx lm (k + 1)) - 48)), (0, .ref hM), (1, vi k)]) (st' := [vi z]) rfl rfl rfl ?_
  refine r_istore C (lv' := [(5, vi z), (4, vi ((ltr Tx lm (k + 3)) - 48)), (3, vi ((ltr Tx lm (k + 2)) - 48)), (2, vi ((ltr Tx lm (k + 1)) - 48)), (0, .ref hM), (1, vi k)]) dX12_readsMeasure_76 rfl rfl ?_
  refine r_aload_n C dX12_readsMeasure_78 4 rfl ?_
  refine gf_X12_26 C dX12_readsMeasure_79 0 rfl rfl ?_
  refine r_sipush C dX12_readsMeasure_82 rfl ?_
  refine r_iload_n C dX12_readsMeasure_85 3 rfl ?_
  refine r_iast C (ws' := [(hM, oB 11 [vi wi, vi hi, .ref mN, .ref mC, vi cm, vi ca, .ref mL, vi sc, vi qu, vi fp, .ref mT, vi lm, vi nw, vi nh, vi nr, .ref mF, .ref mR, .ref mD, .ref mA, vi ii, vi wo, vi wd, vi oe, .ref mK, vi rm, .ref mH, vi cn]), (mT, aI g 200 Tx), (mF, aI g 145 (zU Fr 142 ((ltr Tx lm (k + 1)) - 48)))]) dX12_readsMeasure_86 2 rfl rfl (by omega) rfl ?_
  refine r_aload_n C dX12_readsMeasure_87 4 rfl ?_
  refine gf_X12_26 C dX12_readsMeasure_88 0 rfl rfl ?_
  refine r_sipush C dX12_readsMeasure_91 rfl ?_
  refine r_bipush C dX12_readsMeasure_94 rfl ?_
  refine r_iload_n C dX12_readsMeasure_96 2 rfl ?_
  refine r_imul C dX12_readsMeasure_97 ?_
  refine r_iload C dX12_readsMeasure_98 1 rfl ?_
  refine r_iadd C dX12_readsMeasure_100 ?_
  refine r_iast C (ws' := [(hM, oB 11 [vi wi, vi hi, .ref mN, .ref mC, vi cm, vi ca, .ref mL, vi sc, vi qu, vi fp, .ref mT, vi lm, vi nw, vi nh, vi nr, .ref mF, .ref mR, .ref mD, .ref mA, vi ii, vi wo, vi wd, vi oe, .ref mK, vi rm, .ref mH, vi cn]), (mT, aI g 200 Tx), (mF, aI g 145 (zU (zU Fr 142 ((ltr Tx lm (k + 1)) - 48)) 143 ((10 * ((ltr Tx lm (k + 2)) - 48)) + ((ltr Tx lm (k + 3)) - 48))))]) dX12_readsMeasure_101 2 rfl rfl (by omega) rfl ?_
  refine r_iload C dX12_readsMeasure_102 0 rfl ?_
  exact e_z C () dX12_readsMeasure_104 (by omega) (show (z = 1 ∧ (0 ≤ ltr Tx lm (k + 1) - 48 ∧ ltr Tx lm (k + 1) - 48 ≤ 2) ∧ (0 ≤ ltr Tx lm (k + 2) - 48 ∧ ltr Tx lm (k + 2) - 48 ≤ 9) ∧ (0 ≤ ltr Tx lm (k + 3) - 48 ∧ ltr Tx lm (k + 3) - 48 ≤ 9) ∧ ¬ ltr Tx lm (k + 2) - 48 + (ltr Tx lm (k + 3) - 48) = 0) ∨ (z = 0 ∧ ¬ ((0 ≤ ltr Tx lm (k + 1) - 48 ∧ ltr Tx lm (k + 1) - 48 ≤ 2) ∧ (0 ≤ ltr Tx lm (k + 2) - 48 ∧ ltr Tx lm (k + 2) - 48 ≤ 9) ∧ (0 ≤ ltr Tx lm (k + 3) - 48 ∧ ltr Tx lm (k + 3) - 48 ≤ 9) ∧ ¬ ltr Tx lm (k + 2) - 48 + (ltr Tx lm (k + 3) - 48) = 0)) from jz) rfl
