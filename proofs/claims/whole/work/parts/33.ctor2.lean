def fr0 : Int → Int := fun k => if k = 1 then 60 else if k = 2 then 4 else if k = 3 then 132 else if k = 4 then 128 else if k = 5 then 240 else if k = 7 then 2 else if k = 8 then 2 else if k = 9 then 30 else 0
def fd0 : Int → Int := fun k => if k = 2 then 1 else if k = 4 then 2 else if k = 6 then 3 else if k = 9 then -1 else if k = 11 then -2 else 0
theorem fr0_b (k : Int) : 0 ≤ fr0 k ∧ fr0 k ≤ 255 := by
  unfold fr0
  omega
def gN0 (i : Int) : Int → Int := fun j => if 0 ≤ j ∧ j < 121 ∧ j % 11 < 10 ∧ 10 * (j / 11) + j % 11 < i then tb (fr0 (j / 11)) (j % 11) else 0
theorem gN0_0 : (fun _ => 0) = gN0 0 := by
  funext j
  unfold gN0
  rw [if_neg (by omega)]
theorem gN0_s {i : Int} (h : 0 ≤ i ∧ i < 100) : zU (gN0 i) (11 * (i / 10) + i % 10) (tb (fr0 (i / 10)) (i % 10)) = gN0 (i + 1) := by
  funext j
  unfold zU gN0
  by_cases e : j = 11 * (i / 10) + i % 10
  · rw [if_pos e, if_pos (by omega), show j / 11 = i / 10 by omega, show j % 11 = i % 10 by omega]
  · rw [if_neg e]
    by_cases q : 0 ≤ j ∧ j < 121 ∧ j % 11 < 10 ∧ 10 * (j / 11) + j % 11 < i
    · rw [if_pos q, if_pos (by omega)]
    · rw [if_neg q, if_neg (by omega)]
def dN0 : Nat → Int → Int
  | 0 => gN0 100
  | i + 1 => cnR (dN0 i) (fd0 (2 * (i : Int))) (fd0 (2 * (i : Int) + 1))
theorem dN0_n : ∀ i : Nat, dN0 i 141 = i := by
  intro i
  induction i with
  | zero => rfl
  | succ i ih => show cnR (dN0 i) _ _ 141 = _; rw [cnR_n, ih]; omega
theorem dN0_s {i : Int} (h : 0 ≤ i) : cnR (dN0 i.toNat) (fd0 (2 * i)) (fd0 (2 * i + 1)) = dN0 (i + 1).toNat := by
  obtain ⟨n, rfl⟩ := Int.eq_ofNat_of_zero_le h
  rw [show ((n : Int) + 1).toNat = n + 1 by omega, Int.toNat_natCast]
  rfl
set_option maxHeartbeats 2000000 in
set_option maxRecDepth 100000 in
theorem c_X12_init (l : Launch) (g : Gx) (hM : Nat) (sz : Nat) : Met l yX12_init (.code yX12_init cX12_init 2 none :: wsL_law) { frames := 1, cells := 10, slots := 4473, locals := 22 } (PRo g [.ref hM] [(hM, oB 11 [vi 0, vi 0, .null, .null, vi 0, vi 0, .null, vi 0, vi 0, vi 0, .null, vi 0, vi 0, vi 0, vi 0, .null, .null, .null, .null, vi 0, vi 0, vi 0, vi 0, .null, vi 0, .null, vi 0])] sz) (PV (S := Nat × Nat × Nat × Nat × Nat × Nat × Nat × Nat × Nat × Nat) g (fun u_ => True) (fun u_ => [(hM, oB 11 [vi 10, vi 10, .ref u_.1, .ref u_.2.1, vi 0, vi 0, .ref u_.2.2.1, vi 2, vi 0, vi 0, .ref u_.2.2.2.1, vi 0, vi 0, vi 0, vi 0, .ref u_.2.2.2.2.1, .ref u_.2.2.2.2.2.1, .ref u_.2.2.2.2.2.2.1, .ref u_.2.2.2.2.2.2.2.1, vi 0, vi 0, vi 0, vi 0, .ref u_.2.2.2.2.2.2.2.2.1, vi 0, .ref u_.2.2.2.2.2.2.2.2.2, vi 0]), (u_.1, aI g 145 (zU (zU (dN0 6) 142 1) 143 20)), (u_.2.1, aI g 870 (fun _ => 0)), (u_.2.2.1, aI g 56 (fun _ => 0)), (u_.2.2.2.1, aI g 200 (fun _ => 0)), (u_.2.2.2.2.1, aI g 145 (fun _ => 0)), (u_.2.2.2.2.2.1, aI g 10 fr0), (u_.2.2.2.2.2.2.1, aI g 12 fd0), (u_.2.2.2.2.2.2.2.1, aI g 121 (fun _ => 0)), (u_.2.2.2.2.2.2.2.2.1, aI g 2904 (fun _ => 0)), (u_.2.2.2.2.2.2.2.2.2, aI g 10 (fun _ => 0))]) [(hM, oB 11 [vi 0, vi 0, .null, .null, vi 0, vi 0, .null, vi 0, vi 0, vi 0, .null, vi 0, vi 0, vi 0, vi 0, .null, .null, .null, .null, vi 0, vi 0, vi 0, vi 0, .null, vi 0, .null, vi 0])] sz) 10 4473 (va_A [(hM, oB 11 [vi 0, vi 0, .null, .null, vi 0, vi 0, .null, vi 0, vi 0, vi 0, .null, vi 0, vi 0, vi 0, vi 0, .null, .null, .null, .null, vi 0, vi 0, vi 0, vi 0, .null, vi 0, .null, vi 0])] sz) := by
  refine meetO (own := RX12) rfl (plainFor_of_name (by decide +kernel)) rfl (fun p_ e_ s_ m_ args_ below_ meth_ c_ C hnm hAO => ?_)
  refine r_at (ws' := [(hM, oB 11 [vi 0, vi 0, .null, .null, vi 0, vi 0, .null, vi 0, vi 0, vi 0, .null, vi 0, vi 0, vi 0, vi 0, .null, .null, .null, .null, vi 0, vi 0, vi 0, vi 0, .null, vi 0, .null, vi 0])]) (lv' := [(0, .ref hM)]) rfl rfl ?_
  refine r_aload_n C dX12_init_0 0 rfl ?_
  refine r_objInit C (in_r11 (List.mem_of_getElem? (i := 4) rfl)) dX12_init_1 rfl ?_
  refine r_aload_n C dX12_init_4 0 rfl ?_
  refine r_sipush C dX12_init_5 rfl ?_
  refine r_newi C 145 (in_r4 (List.mem_of_getElem? (i := 3) rfl)) dX12_init_8 rfl rfl rfl (fun mN => ?_)
  refine r_at (ws' := [(hM, oB 11 [vi 0, vi 0, .null, .null, vi 0, vi 0, .null, vi 0, vi 0, vi 0, .null, vi 0, vi 0, vi 0, vi 0, .null, .null, .null, .null, vi 0, vi 0, vi 0, vi 0, .null, vi 0, .null, vi 0]), (mN, aI g 145 (fun _ => 0))]) (lv' := [(0, .ref hM)]) rfl rfl ?_
  refine pf_X12_7 C (ws' := [(hM, oB 11 [vi 0, vi 0, .ref mN, .null, vi 0, vi 0, .null, vi 0, vi 0, vi 0, .null, vi 0, vi 0, vi 0, vi 0, .null, .null, .null, .null, vi 0, vi 0, vi 0, vi 0, .null, vi 0, .null, vi 0]), (mN, aI g 145 (fun _ => 0))]) hnm dX12_init_10 0 rfl (Nat.le_of_ble_eq_true rfl) rfl ?_
  refine r_aload_n C dX12_init_13 0 rfl ?_
  refine r_sipush C dX12_init_14 rfl ?_
  refine r_newi C 870 (in_r4 (List.mem_of_getElem? (i := 3) rfl)) dX12_init_17 rfl rfl rfl (fun mC => ?_)
  refine r_at (ws' := [(hM, oB 11 [vi 0, vi 0, .ref mN, .null, vi 0, vi 0, .null, vi 0, vi 0, vi 0, .null, vi 0, vi 0, vi 0, vi 0, .null, .null, .null, .null, vi 0, vi 0, vi 0, vi 0, .null, vi 0, .null, vi 0]), (mN, aI g 145 (fun _ => 0)), (mC, aI g 870 (fun _ => 0))]) (lv' := [(0, .ref hM)]) rfl rfl ?_
  refine pf_X12_13 C (ws' := [(hM, oB 11 [vi 0, vi 0, .ref mN, .ref mC, vi 0, vi 0, .null, vi 0, vi 0, vi 0, .null, vi 0, vi 0, vi 0, vi 0, .null, .null, .null, .null, vi 0, vi 0, vi 0, vi 0, .null, vi 0, .null, vi 0]), (mN, aI g 145 (fun _ => 0)), (mC, aI g 870 (fun _ => 0))]) hnm dX12_init_19 0 rfl (Nat.le_of_ble_eq_true rfl) rfl ?_
  refine r_aload_n C dX12_init_22 0 rfl ?_
  refine r_bipush C dX12_init_23 rfl ?_
  refine r_newi C 56 (in_r4 (List.mem_of_getElem? (i := 3) rfl)) dX12_init_25 rfl rfl rfl (fun mL => ?_)
  refine r_at (ws' := [(hM, oB 11 [vi 0, vi 0, .ref mN, .ref mC, vi 0, vi 0, .null, vi 0, vi 0, vi 0, .null, vi 0, vi 0, vi 0, vi 0, .null, .null, .null, .null, vi 0, vi 0, vi 0, vi 0, .null, vi 0, .null, vi 0]), (mN, aI g 145 (fun _ => 0)), (mC, aI g 870 (fun _ => 0)), (mL, aI g 56 (fun _ => 0))]) (lv' := [(0, .ref hM)]) rfl rfl ?_
  refine pf_X12_16 C (ws' := [(hM, oB 11 [vi 0, vi 0, .ref mN, .ref mC, vi 0, vi 0, .ref mL, vi 0, vi 0, vi 0, .null, vi 0, vi 0, vi 0, vi 0, .null, .null, .null, .null, vi 0, vi 0, vi 0, vi 0, .null, vi 0, .null, vi 0]), (mN, aI g 145 (fun _ => 0)), (mC, aI g 870 (fun _ => 0)), (mL, aI g 56 (fun _ => 0))]) hnm dX12_init_27 0 rfl (Nat.le_of_ble_eq_true rfl) rfl ?_
  refine r_aload_n C dX12_init_30 0 rfl ?_
  refine r_iconst C dX12_init_31 ?_
  refine pf_X12_19 C (ws' := [(hM, oB 11 [vi 0, vi 0, .ref mN, .ref mC, vi 0, vi 0, .ref mL, vi 2, vi 0, vi 0, .null, vi 0, vi 0, vi 0, vi 0, .null, .null, .null, .null, vi 0, vi 0, vi 0, vi 0, .null, vi 0, .null, vi 0]), (mN, aI g 145 (fun _ => 0)), (mC, aI g 870 (fun _ => 0)), (mL, aI g 56 (fun _ => 0))]) dX12_init_32 0 rfl (Nat.le_of_ble_eq_true rfl) rfl ?_
  refine r_aload_n C dX12_init_35 0 rfl ?_
  refine r_sipush C dX12_init_36 rfl ?_
  refine r_newi C 200 (in_r4 (List.mem_of_getElem? (i := 3) rfl)) dX12_init_39 rfl rfl rfl (fun mT => ?_)
  refine r_at (ws' := [(hM, oB 11 [vi 0, vi 0, .ref mN, .ref mC, vi 0, vi 0, .ref mL, vi 2, vi 0, vi 0, .null, vi 0, vi 0, vi 0, vi 0, .null, .null, .null, .null, vi 0, vi 0, vi 0, vi 0, .null, vi 0, .null, vi 0]), (mN, aI g 145 (fun _ => 0)), (mC, aI g 870 (fun _ => 0)), (mL, aI g 56 (fun _ => 0)), (mT, aI g 200 (fun _ => 0))]) (lv' := [(0, .ref hM)]) rfl rfl ?_
  refine pf_X12_23 C (ws' := [(hM, oB 11 [vi 0, vi 0, .ref mN, .ref mC, vi 0, vi 0, .ref mL, vi 2, vi 0, vi 0, .ref mT, vi 0, vi 0, vi 0, vi 0, .null, .null, .null, .null, vi 0, vi 0, vi 0, vi 0, .null, vi 0, .null, vi 0]), (mN, aI g 145 (fun _ => 0)), (mC, aI g 870 (fun _ => 0)), (mL, aI g 56 (fun _ => 0)), (mT, aI g 200 (fun _ => 0))]) hnm dX12_init_41 0 rfl (Nat.le_of_ble_eq_true rfl) rfl ?_
  refine r_aload_n C dX12_init_44 0 rfl ?_
  refine r_sipush C dX12_init_45 rfl ?_
  refine r_newi C 145 (in_r4 (List.mem_of_getElem? (i := 3) rfl)) dX12_init_48 rfl rfl rfl (fun mF => ?_)
  refine r_at (ws' := [(hM, oB 11 [vi 0, vi 0, .ref mN, .ref mC, vi 0, vi 0, .ref mL, vi 2, vi 0, vi 0, .ref mT, vi 0, vi 0, vi 0, vi 0, .null, .null, .null, .null, vi 0, vi 0, vi 0, vi 0, .null, vi 0, .null, vi 0]), (mN, aI g 145 (fun _ => 0)), (mC, aI g 870 (fun _ => 0)), (mL, aI g 56 (fun _ => 0)), (mT, aI g 200 (fun _ => 0)), (mF, aI g 145 (fun _ => 0))]) (lv' := [(0, .ref hM)]) rfl rfl ?_
  refine pf_X12_26 C (ws' := [(hM, oB 11 [vi 0, vi 0, .ref mN, .ref mC, vi 0, vi 0, .ref mL, vi 2, vi 0, vi 0, .ref mT, vi 0, vi 0, vi 0, vi 0, .ref mF, .null, .null, .null, vi 0, vi 0, vi 0, vi 0, .null, vi 0, .null, vi 0]), (mN, aI g 145 (fun _ => 0)), (mC, aI g 870 (fun _ => 0)), (mL, aI g 56 (fun _ => 0)), (mT, aI g 200 (fun _ => 0)), (mF, aI g 145 (fun _ => 0))]) hnm dX12_init_50 0 rfl (Nat.le_of_ble_eq_true rfl) rfl ?_
  refine r_aload_n C dX12_init_53 0 rfl ?_
  refine r_bipush C dX12_init_54 rfl ?_
  refine r_newi C 10 (in_r4 (List.mem_of_getElem? (i := 3) rfl)) dX12_init_56 rfl rfl rfl (fun mR => ?_)
  refine r_at (ws' := [(hM, oB 11 [vi 0, vi 0, .ref mN, .ref mC, vi 0, vi 0, .ref mL, vi 2, vi 0, vi 0, .ref mT, vi 0, vi 0, vi 0, vi 0, .ref mF, .null, .null, .null, vi 0, vi 0, vi 0, vi 0, .null, vi 0, .null, vi 0]), (mN, aI g 145 (fun _ => 0)), (mC, aI g 870 (fun _ => 0)), (mL, aI g 56 (fun _ => 0)), (mT, aI g 200 (fun _ => 0)), (mF, aI g 145 (fun _ => 0)), (mR, aI g 10 (fun _ => 0))]) (lv' := [(0, .ref hM)]) rfl rfl ?_
  refine r_dup C dX12_init_58 rfl ?_
  refine r_iconst C dX12_init_59 ?_
  refine r_iconst C dX12_init_60 ?_
  refine r_iast C (ws' := [(hM, oB 11 [vi 0, vi 0, .ref mN, .ref mC, vi 0, vi 0, .ref mL, vi 2, vi 0, vi 0, .ref mT, vi 0, vi 0, vi 0, vi 0, .ref mF, .null, .null, .null, vi 0, vi 0, vi 0, vi 0, .null, vi 0, .null, vi 0]), (mN, aI g 145 (fun _ => 0)), (mC, aI g 870 (fun _ => 0)), (mL, aI g 56 (fun _ => 0)), (mT, aI g 200 (fun _ => 0)), (mF, aI g 145 (fun _ => 0)), (mR, aI g 10 (zU (fun _ => 0) 0 0))]) dX12_init_61 6 rfl rfl (by omega) rfl ?_
  refine r_dup C dX12_init_62 rfl ?_
  refine r_iconst C dX12_init_63 ?_
  refine r_bipush C dX12_init_64 rfl ?_
  refine r_iast C (ws' := [(hM, oB 11 [vi 0, vi 0, .ref mN, .ref mC, vi 0, vi 0, .ref mL, vi 2, vi 0, vi 0, .ref mT, vi 0, vi 0, vi 0, vi 0, .ref mF, .null, .null, .null, vi 0, vi 0, vi 0, vi 0, .null, vi 0, .null, vi 0]), (mN, aI g 145 (fun _ => 0)), (mC, aI g 870 (fun _ => 0)), (mL, aI g 56 (fun _ => 0)), (mT, aI g 200 (fun _ => 0)), (mF, aI g 145 (fun _ => 0)), (mR, aI g 10 (zU (zU (fun _ => 0) 0 0) 1 60))]) dX12_init_66 6 rfl rfl (by omega) rfl ?_
  refine r_dup C dX12_init_67 rfl ?_
  refine r_iconst C dX12_init_68 ?_
  refine r_iconst C dX12_init_69 ?_
  refine r_iast C (ws' := [(hM, oB 11 [vi 0, vi 0, .ref mN, .ref mC, vi 0, vi 0, .ref mL, vi 2, vi 0, vi 0, .ref mT, vi 0, vi 0, vi 0, vi 0, .ref mF, .null, .null, .null, vi 0, vi 0, vi 0, vi 0, .null, vi 0, .null, vi 0]), (mN, aI g 145 (fun _ => 0)), (mC, aI g 870 (fun _ => 0)), (mL, aI g 56 (fun _ => 0)), (mT, aI g 200 (fun _ => 0)), (mF, aI g 145 (fun _ => 0)), (mR, aI g 10 (zU (zU (zU (fun _ => 0) 0 0) 1 60) 2 4))]) dX12_init_70 6 rfl rfl (by omega) rfl ?_
  refine r_dup C dX12_init_71 rfl ?_
  refine r_iconst C dX12_init_72 ?_
  refine r_sipush C dX12_init_73 rfl ?_
  refine r_iast C (ws' := [(hM, oB 11 [vi 0, vi 0, .ref mN, .ref mC, vi 0, vi 0, .ref mL, vi 2, vi 0, vi 0, .ref mT, vi 0, vi 0, vi 0, vi 0, .ref mF, .null, .null, .null, vi 0, vi 0, vi 0, vi 0, .null, vi 0, .null, vi 0]), (mN, aI g 145 (fun _ => 0)), (mC, aI g 870 (fun _ => 0)), (mL, aI g 56 (fun _ => 0)), (mT, aI g 200 (fun _ => 0)), (mF, aI g 145 (fun _ => 0)), (mR, aI g 10 (zU (zU (zU (zU (fun _ => 0) 0 0) 1 60) 2 4) 3 132))]) dX12_init_76 6 rfl rfl (by omega) rfl ?_
  refine r_dup C dX12_init_77 rfl ?_
  refine r_iconst C dX12_init_78 ?_
  refine r_sipush C dX12_init_79 rfl ?_
  refine r_iast C (ws' := [(hM, oB 11 [vi 0, vi 0, .ref mN, .ref mC, vi 0, vi 0, .ref mL, vi 2, vi 0, vi 0, .ref mT, vi 0, vi 0, vi 0, vi 0, .ref mF, .null, .null, .null, vi 0, vi 0, vi 0, vi 0, .null, vi 0, .null, vi 0]), (mN, aI g 145 (fun _ => 0)), (mC, aI g 870 (fun _ => 0)), (mL, aI g 56 (fun _ => 0)), (mT, aI g 200 (fun _ => 0)), (mF, aI g 145 (fun _ => 0)), (mR, aI g 10 (zU (zU (zU (zU (zU (fun _ => 0) 0 0) 1 60) 2 4) 3 132) 4 128))]) dX12_init_82 6 rfl rfl (by omega) rfl ?_
  refine r_dup C dX12_init_83 rfl ?_
  refine r_iconst C dX12_init_84 ?_
  refine r_sipush C dX12_init_85 rfl ?_
  refine r_iast C (ws' := [(hM, oB 11 [vi 0, vi 0, .ref mN, .ref mC, vi 0, vi 0, .ref mL, vi 2, vi 0, vi 0, .ref mT, vi 0, vi 0, vi 0, vi 0, .ref mF, .null, .null, .null, vi 0, vi 0, vi 0, vi 0, .null, vi 0, .null, vi 0]), (mN, aI g 145 (fun _ => 0)), (mC, aI g 870 (fun _ => 0)), (mL, aI g 56 (fun _ => 0)), (mT, aI g 200 (fun _ => 0)), (mF, aI g 145 (fun _ => 0)), (mR, aI g 10 (zU (zU (zU (zU (zU (zU (fun _ => 0) 0 0) 1 60) 2 4) 3 132) 4 128) 5 240))]) dX12_init_88 6 rfl rfl (by omega) rfl ?_
  refine r_dup C dX12_init_89 rfl ?_
  refine r_bipush C dX12_init_90 rfl ?_
  refine r_iconst C dX12_init_92 ?_
  refine r_iast C (ws' := [(hM, oB 11 [vi 0, vi 0, .ref mN, .ref mC, vi 0, vi 0, .ref mL, vi 2, vi 0, vi 0, .ref mT, vi 0, vi 0, vi 0, vi 0, .ref mF, .null, .null, .null, vi 0, vi 0, vi 0, vi 0, .null, vi 0, .null, vi 0]), (mN, aI g 145 (fun _ => 0)), (mC, aI g 870 (fun _ => 0)), (mL, aI g 56 (fun _ => 0)), (mT, aI g 200 (fun _ => 0)), (mF, aI g 145 (fun _ => 0)), (mR, aI g 10 (zU (zU (zU (zU (zU (zU (zU (fun _ => 0) 0 0) 1 60) 2 4) 3 132) 4 128) 5 240) 6 0))]) dX12_init_93 6 rfl rfl (by omega) rfl ?_
  refine r_dup C dX12_init_94 rfl ?_
  refine r_bipush C dX12_init_95 rfl ?_
  refine r_iconst C dX12_init_97 ?_
  refine r_iast C (ws' := [(hM, oB 11 [vi 0, vi 0, .ref mN, .ref mC, vi 0, vi 0, .ref mL, vi 2, vi 0, vi 0, .ref mT, vi 0, vi 0, vi 0, vi 0, .ref mF, .null, .null, .null, vi 0, vi 0, vi 0, vi 0, .null, vi 0, .null, vi 0]), (mN, aI g 145 (fun _ => 0)), (mC, aI g 870 (fun _ => 0)), (mL, aI g 56 (fun _ => 0)), (mT, aI g 200 (fun _ => 0)), (mF, aI g 145 (fun _ => 0)), (mR, aI g 10 (zU (zU (zU (zU (zU (zU (zU (zU (fun _ => 0) 0 0) 1 60) 2 4) 3 132) 4 128) 5 240) 6 0) 7 2))]) dX12_init_98 6 rfl rfl (by omega) rfl ?_
  refine r_dup C dX12_init_99 rfl ?_
  refine r_bipush C dX12_init_100 rfl ?_
  refine r_iconst C dX12_init_102 ?_
  refine r_iast C (ws' := [(hM, oB 11 [vi 0, vi 0, .ref mN, .ref mC, vi 0, vi 0, .ref mL, vi 2, vi 0, vi 0, .ref mT, vi 0, vi 0, vi 0, vi 0, .ref mF, .null, .null, .null, vi 0, vi 0, vi 0, vi 0, .null, vi 0, .null, vi 0]), (mN, aI g 145 (fun _ => 0)), (mC, aI g 870 (fun _ => 0)), (mL, aI g 56 (fun _ => 0)), (mT, aI g 200 (fun _ => 0)), (mF, aI g 145 (fun _ => 0)), (mR, aI g 10 (zU (zU (zU (zU (zU (zU (zU (zU (zU (fun _ => 0) 0 0) 1 60) 2 4) 3 132) 4 128) 5 240) 6 0) 7 2) 8 2))]) dX12_init_103 6 rfl rfl (by omega) rfl ?_
  refine r_dup C dX12_init_104 rfl ?_
  refine r_bipush C dX12_init_105 rfl ?_
  refine r_bipush C dX12_init_107 rfl ?_
  refine r_iast C (ws' := [(hM, oB 11 [vi 0, vi 0, .ref mN, .ref mC, vi 0, vi 0, .ref mL, vi 2, vi 0, vi 0, .ref mT, vi 0, vi 0, vi 0, vi 0, .ref mF, .null, .null, .null, vi 0, vi 0, vi 0, vi 0, .null, vi 0, .null, vi 0]), (mN, aI g 145 (fun _ => 0)), (mC, aI g 870 (fun _ => 0)), (mL, aI g 56 (fun _ => 0)), (mT, aI g 200 (fun _ => 0)), (mF, aI g 145 (fun _ => 0)), (mR, aI g 10 (zU (zU (zU (zU (zU (zU (zU (zU (zU (zU (fun _ => 0) 0 0) 1 60) 2 4) 3 132) 4 128) 5 240) 6 0) 7 2) 8 2) 9 30))]) dX12_init_109 6 rfl rfl (by omega) rfl ?_
  refine pf_X12_29 C (ws' := [(hM, oB 11 [vi 0, vi 0, .ref mN, .ref mC, vi 0, vi 0, .ref mL, vi 2, vi 0, vi 0, .ref mT, vi 0, vi 0, vi 0, vi 0, .ref mF, .ref mR, .null, .null, vi 0, vi 0, vi 0, vi 0, .null, vi 0, .null, vi 0]), (mN, aI g 145 (fun _ => 0)), (mC, aI g 870 (fun _ => 0)), (mL, aI g 56 (fun _ => 0)), (mT, aI g 200 (fun _ => 0)), (mF, aI g 145 (fun _ => 0)), (mR, aI g 10 (zU (zU (zU (zU (zU (zU (zU (zU (zU (zU (fun _ => 0) 0 0) 1 60) 2 4) 3 132) 4 128) 5 240) 6 0) 7 2) 8 2) 9 30))]) hnm dX12_init_110 0 rfl (Nat.le_of_ble_eq_true rfl) rfl ?_
  refine r_ext C (f' := fr0) (ws' := [(hM, oB 11 [vi 0, vi 0, .ref mN, .ref mC, vi 0, vi 0, .ref mL, vi 2, vi 0, vi 0, .ref mT, vi 0, vi 0, vi 0, vi 0, .ref mF, .ref mR, .null, .null, vi 0, vi 0, vi 0, vi 0, .null, vi 0, .null, vi 0]), (mN, aI g 145 (fun _ => 0)), (mC, aI g 870 (fun _ => 0)), (mL, aI g 56 (fun _ => 0)), (mT, aI g 200 (fun _ => 0)), (mF, aI g 145 (fun _ => 0)), (mR, aI g 10 fr0)]) 6 rfl (fun k h0 h1 => by rcases (by omega : k = 0 ∨ k = 1 ∨ k = 2 ∨ k = 3 ∨ k = 4 ∨ k = 5 ∨ k = 6 ∨ k = 7 ∨ k = 8 ∨ k = 9) with rfl | rfl | rfl | rfl | rfl | rfl | rfl | rfl | rfl | rfl <;> rfl) rfl ?_
  refine r_aload_n C dX12_init_113 0 rfl ?_
  refine r_bipush C dX12_init_114 rfl ?_
  refine r_newi C 12 (in_r4 (List.mem_of_getElem? (i := 3) rfl)) dX12_init_116 rfl rfl rfl (fun mD => ?_)
  refine r_at (ws' := [(hM, oB 11 [vi 0, vi 0, .ref mN, .ref mC, vi 0, vi 0, .ref mL, vi 2, vi 0, vi 0, .ref mT, vi 0, vi 0, vi 0, vi 0, .ref mF, .ref mR, .null, .null, vi 0, vi 0, vi 0, vi 0, .null, vi 0, .null, vi 0]), (mN, aI g 145 (fun _ => 0)), (mC, aI g 870 (fun _ => 0)), (mL, aI g 56 (fun _ => 0)), (mT, aI g 200 (fun _ => 0)), (mF, aI g 145 (fun _ => 0)), (mR, aI g 10 fr0), (mD, aI g 12 (fun _ => 0))]) (lv' := [(0, .ref hM)]) rfl rfl ?_
  refine r_dup C dX12_init_118 rfl ?_
  refine r_iconst C dX12_init_119 ?_
  refine r_iconst C dX12_init_120 ?_
  refine r_iast C (ws' := [(hM, oB 11 [vi 0, vi 0, .ref mN, .ref mC, vi 0, vi 0, .ref mL, vi 2, vi 0, vi 0, .ref mT, vi 0, vi 0, vi 0, vi 0, .ref mF, .ref mR, .null, .null, vi 0, vi 0, vi 0, vi 0, .null, vi 0, .null, vi 0]), (mN, aI g 145 (fun _ => 0)), (mC, aI g 870 (fun _ => 0)), (mL, aI g 56 (fun _ => 0)), (mT, aI g 200 (fun _ => 0)), (mF, aI g 145 (fun _ => 0)), (mR, aI g 10 fr0), (mD, aI g 12 (zU (fun _ => 0) 0 0))]) dX12_init_121 7 rfl rfl (by omega) rfl ?_
  refine r_dup C dX12_init_122 rfl ?_
  refine r_iconst C dX12_init_123 ?_
  refine r_iconst C dX12_init_124 ?_
  refine r_iast C (ws' := [(hM, oB 11 [vi 0, vi 0, .ref mN, .ref mC, vi 0, vi 0, .ref mL, vi 2, vi 0, vi 0, .ref mT, vi 0, vi 0, vi 0, vi 0, .ref mF, .ref mR, .null, .null, vi 0, vi 0, vi 0, vi 0, .null, vi 0, .null, vi 0]), (mN, aI g 145 (fun _ => 0)), (mC, aI g 870 (fun _ => 0)), (mL, aI g 56 (fun _ => 0)), (mT, aI g 200 (fun _ => 0)), (mF, aI g 145 (fun _ => 0)), (mR, aI g 10 fr0), (mD, aI g 12 (zU (zU (fun _ => 0) 0 0) 1 0))]) dX12_init_125 7 rfl rfl (by omega) rfl ?_
  refine r_dup C dX12_init_126 rfl ?_
  refine r_iconst C dX12_init_127 ?_
  refine r_iconst C dX12_init_128 ?_
  refine r_iast C (ws' := [(hM, oB 11 [vi 0, vi 0, .ref mN, .ref mC, vi 0, vi 0, .ref mL, vi 2, vi 0, vi 0, .ref mT, vi 0, vi 0, vi 0, vi 0, .ref mF, .ref mR, .null, .null, vi 0, vi 0, vi 0, vi 0, .null, vi 0, .null, vi 0]), (mN, aI g 145 (fun _ => 0)), (mC, aI g 870 (fun _ => 0)), (mL, aI g 56 (fun _ => 0)), (mT, aI g 200 (fun _ => 0)), (mF, aI g 145 (fun _ => 0)), (mR, aI g 10 fr0), (mD, aI g 12 (zU (zU (zU (fun _ => 0) 0 0) 1 0) 2 1))]) dX12_init_129 7 rfl rfl (by omega) rfl ?_
  refine r_dup C dX12_init_130 rfl ?_
  refine r_iconst C dX12_init_131 ?_
  refine r_iconst C dX12_init_132 ?_
  refine r_iast C (ws' := [(hM, oB 11 [vi 0, vi 0, .ref mN, .ref mC, vi 0, vi 0, .ref mL, vi 2, vi 0, vi 0, .ref mT, vi 0, vi 0, vi 0, vi 0, .ref mF, .ref mR, .null, .null, vi 0, vi 0, vi 0, vi 0, .null, vi 0, .null, vi 0]), (mN, aI g 145 (fun _ => 0)), (mC, aI g 870 (fun _ => 0)), (mL, aI g 56 (fun _ => 0)), (mT, aI g 200 (fun _ => 0)), (mF, aI g 145 (fun _ => 0)), (mR, aI g 10 fr0), (mD, aI g 12 (zU (zU (zU (zU (fun _ => 0) 0 0) 1 0) 2 1) 3 0))]) dX12_init_133 7 rfl rfl (by omega) rfl ?_
  refine r_dup C dX12_init_134 rfl ?_
  refine r_iconst C dX12_init_135 ?_
  refine r_iconst C dX12_init_136 ?_
  refine r_iast C (ws' := [(hM, oB 11 [vi 0, vi 0, .ref mN, .ref mC, vi 0, vi 0, .ref mL, vi 2, vi 0, vi 0, .ref mT, vi 0, vi 0, vi 0, vi 0, .ref mF, .ref mR, .null, .null, vi 0, vi 0, vi 0, vi 0, .null, vi 0, .null, vi 0]), (mN, aI g 145 (fun _ => 0)), (mC, aI g 870 (fun _ => 0)), (mL, aI g 56 (fun _ => 0)), (mT, aI g 200 (fun _ => 0)), (mF, aI g 145 (fun _ => 0)), (mR, aI g 10 fr0), (mD, aI g 12 (zU (zU (zU (zU (zU (fun _ => 0) 0 0) 1 0) 2 1) 3 0) 4 2))]) dX12_init_137 7 rfl rfl (by omega) rfl ?_
  refine r_dup C dX12_init_138 rfl ?_
  refine r_iconst C dX12_init_139 ?_
  refine r_iconst C dX12_init_140 ?_
  refine r_iast C (ws' := [(hM, oB 11 [vi 0, vi 0, .ref mN, .ref mC, vi 0, vi 0, .ref mL, vi 2, vi 0, vi 0, .ref mT, vi 0, vi 0, vi 0, vi 0, .ref mF, .ref mR, .null, .null, vi 0, vi 0, vi 0, vi 0, .null, vi 0, .null, vi 0]), (mN, aI g 145 (fun _ => 0)), (mC, aI g 870 (fun _ => 0)), (mL, aI g 56 (fun _ => 0)), (mT, aI g 200 (fun _ => 0)), (mF, aI g 145 (fun _ => 0)), (mR, aI g 10 fr0), (mD, aI g 12 (zU (zU (zU (zU (zU (zU (fun _ => 0) 0 0) 1 0) 2 1) 3 0) 4 2) 5 0))]) dX12_init_141 7 rfl rfl (by omega) rfl ?_
  refine r_dup C dX12_init_142 rfl ?_
  refine r_bipush C dX12_init_143 rfl ?_
  refine r_iconst C dX12_init_145 ?_
  refine r_iast C (ws' := [(hM, oB 11 [vi 0, vi 0, .ref mN, .ref mC, vi 0, vi 0, .ref mL, vi 2, vi 0, vi 0, .ref mT, vi 0, vi 0, vi 0, vi 0, .ref mF, .ref mR, .null, .null, vi 0, vi 0, vi 0, vi 0, .null, vi 0, .null, vi 0]), (mN, aI g 145 (fun _ => 0)), (mC, aI g 870 (fun _ => 0)), (mL, aI g 56 (fun _ => 0)), (mT, aI g 200 (fun _ => 0)), (mF, aI g 145 (fun _ => 0)), (mR, aI g 10 fr0), (mD, aI g 12 (zU (zU (zU (zU (zU (zU (zU (fun _ => 0) 0 0) 1 0) 2 1) 3 0) 4 2) 5 0) 6 3))]) dX12_init_146 7 rfl rfl (by omega) rfl ?_
  refine r_dup C dX12_init_147 rfl ?_
  refine r_bipush C dX12_init_148 rfl ?_
  refine r_iconst C dX12_init_150 ?_
  refine r_iast C (ws' := [(hM, oB 11 [vi 0, vi 0, .ref mN, .ref mC, vi 0, vi 0, .ref mL, vi 2, vi 0, vi 0, .ref mT, vi 0, vi 0, vi 0, vi 0, .ref mF, .ref mR, .null, .null, vi 0, vi 0, vi 0, vi 0, .null, vi 0, .null, vi 0]), (mN, aI g 145 (fun _ => 0)), (mC, aI g 870 (fun _ => 0)), (mL, aI g 56 (fun _ => 0)), (mT, aI g 200 (fun _ => 0)), (mF, aI g 145 (fun _ => 0)), (mR, aI g 10 fr0), (mD, aI g 12 (zU (zU (zU (zU (zU (zU (zU (zU (fun _ => 0) 0 0) 1 0) 2 1) 3 0) 4 2) 5 0) 6 3) 7 0))]) dX12_init_151 7 rfl rfl (by omega) rfl ?_
  refine r_dup C dX12_init_152 rfl ?_
  refine r_bipush C dX12_init_153 rfl ?_
  refine r_iconst C dX12_init_155 ?_
  refine r_iast C (ws' := [(hM, oB 11 [vi 0, vi 0, .ref mN, .ref mC, vi 0, vi 0, .ref mL, vi 2, vi 0, vi 0, .ref mT, vi 0, vi 0, vi 0, vi 0, .ref mF, .ref mR, .null, .null, vi 0, vi 0, vi 0, vi 0, .null, vi 0, .null, vi 0]), (mN, aI g 145 (fun _ => 0)), (mC, aI g 870 (fun _ => 0)), (mL, aI g 56 (fun _ => 0)), (mT, aI g 200 (fun _ => 0)), (mF, aI g 145 (fun _ => 0)), (mR, aI g 10 fr0), (mD, aI g 12 (zU (zU (zU (zU (zU (zU (zU (zU (zU (fun _ => 0) 0 0) 1 0) 2 1) 3 0) 4 2) 5 0) 6 3) 7 0) 8 0))]) dX12_init_156 7 rfl rfl (by omega) rfl ?_
  refine r_dup C dX12_init_157 rfl ?_
  refine r_bipush C dX12_init_158 rfl ?_
  refine r_iconst C dX12_init_160 ?_
  refine r_iast C (ws' := [(hM, oB 11 [vi 0, vi 0, .ref mN, .ref mC, vi 0, vi 0, .ref mL, vi 2, vi 0, vi 0, .ref mT, vi 0, vi 0, vi 0, vi 0, .ref mF, .ref mR, .null, .null, vi 0, vi 0, vi 0, vi 0, .null, vi 0, .null, vi 0]), (mN, aI g 145 (fun _ => 0)), (mC, aI g 870 (fun _ => 0)), (mL, aI g 56 (fun _ => 0)), (mT, aI g 200 (fun _ => 0)), (mF, aI g 145 (fun _ => 0)), (mR, aI g 10 fr0), (mD, aI g 12 (zU (zU (zU (zU (zU (zU (zU (zU (zU (zU (fun _ => 0) 0 0) 1 0) 2 1) 3 0) 4 2) 5 0) 6 3) 7 0) 8 0) 9 (-1)))]) dX12_init_161 7 rfl rfl (by omega) rfl ?_
  refine r_dup C dX12_init_162 rfl ?_
  refine r_bipush C dX12_init_163 rfl ?_
  refine r_iconst C dX12_init_165 ?_
  refine r_iast C (ws' := [(hM, oB 11 [vi 0, vi 0, .ref mN, .ref mC, vi 0, vi 0, .ref mL, vi 2, vi 0, vi 0, .ref mT, vi 0, vi 0, vi 0, vi 0, .ref mF, .ref mR, .null, .null, vi 0, vi 0, vi 0, vi 0, .null, vi 0, .null, vi 0]), (mN, aI g 145 (fun _ => 0)), (mC, aI g 870 (fun _ => 0)), (mL, aI g 56 (fun _ => 0)), (mT, aI g 200 (fun _ => 0)), (mF, aI g 145 (fun _ => 0)), (mR, aI g 10 fr0), (mD, aI g 12 (zU (zU (zU (zU (zU (zU (zU (zU (zU (zU (zU (fun _ => 0) 0 0) 1 0) 2 1) 3 0) 4 2) 5 0) 6 3) 7 0) 8 0) 9 (-1)) 10 0))]) dX12_init_166 7 rfl rfl (by omega) rfl ?_
  refine r_dup C dX12_init_167 rfl ?_
  refine r_bipush C dX12_init_168 rfl ?_
  refine r_bipush C dX12_init_170 rfl ?_
  refine r_iast C (ws' := [(hM, oB 11 [vi 0, vi 0, .ref mN, .ref mC, vi 0, vi 0, .ref mL, vi 2, vi 0, vi 0, .ref mT, vi 0, vi 0, vi 0, vi 0, .ref mF, .ref mR, .null, .null, vi 0, vi 0, vi 0, vi 0, .null, vi 0, .null, vi 0]), (mN, aI g 145 (fun _ => 0)), (mC, aI g 870 (fun _ => 0)), (mL, aI g 56 (fun _ => 0)), (mT, aI g 200 (fun _ => 0)), (mF, aI g 145 (fun _ => 0)), (mR, aI g 10 fr0), (mD, aI g 12 (zU (zU (zU (zU (zU (zU (zU (zU (zU (zU (zU (zU (fun _ => 0) 0 0) 1 0) 2 1) 3 0) 4 2) 5 0) 6 3) 7 0) 8 0) 9 (-1)) 10 0) 11 (-2)))]) dX12_init_172 7 rfl rfl (by omega) rfl ?_
  refine pf_X12_32 C (ws' := [(hM, oB 11 [vi 0, vi 0, .ref mN, .ref mC, vi 0, vi 0, .ref mL, vi 2, vi 0, vi 0, .ref mT, vi 0, vi 0, vi 0, vi 0, .ref mF, .ref mR, .ref mD, .null, vi 0, vi 0, vi 0, vi 0, .null, vi 0, .null, vi 0]), (mN, aI g 145 (fun _ => 0)), (mC, aI g 870 (fun _ => 0)), (mL, aI g 56 (fun _ => 0)), (mT, aI g 200 (fun _ => 0)), (mF, aI g 145 (fun _ => 0)), (mR, aI g 10 fr0), (mD, aI g 12 (zU (zU (zU (zU (zU (zU (zU (zU (zU (zU (zU (zU (fun _ => 0) 0 0) 1 0) 2 1) 3 0) 4 2) 5 0) 6 3) 7 0) 8 0) 9 (-1)) 10 0) 11 (-2)))]) hnm dX12_init_173 0 rfl (Nat.le_of_ble_eq_true rfl) rfl ?_
  refine r_ext C (f' := fd0) (ws' := [(hM, oB 11 [vi 0, vi 0, .ref mN, .ref mC, vi 0, vi 0, .ref mL, vi 2, vi 0, vi 0, .ref mT, vi 0, vi 0, vi 0, vi 0, .ref mF, .ref mR, .ref mD, .null, vi 0, vi 0, vi 0, vi 0, .null, vi 0, .null, vi 0]), (mN, aI g 145 (fun _ => 0)), (mC, aI g 870 (fun _ => 0)), (mL, aI g 56 (fun _ => 0)), (mT, aI g 200 (fun _ => 0)), (mF, aI g 145 (fun _ => 0)), (mR, aI g 10 fr0), (mD, aI g 12 fd0)]) 7 rfl (fun k h0 h1 => by rcases (by omega : k = 0 ∨ k = 1 ∨ k = 2 ∨ k = 3 ∨ k = 4 ∨ k = 5 ∨ k = 6 ∨ k = 7 ∨ k = 8 ∨ k = 9 ∨ k = 10 ∨ k = 11) with rfl | rfl | rfl | rfl | rfl | rfl | rfl | rfl | rfl | rfl | rfl | rfl <;> rfl) rfl ?_
  refine r_aload_n C dX12_init_176 0 rfl ?_
  refine r_bipush C dX12_init_177 rfl ?_
  refine r_newi C 121 (in_r4 (List.mem_of_getElem? (i := 3) rfl)) dX12_init_179 rfl rfl rfl (fun mA => ?_)
  refine r_at (ws' := [(hM, oB 11 [vi 0, vi 0, .ref mN, .ref mC, vi 0, vi 0, .ref mL, vi 2, vi 0, vi 0, .ref mT, vi 0, vi 0, vi 0, vi 0, .ref mF, .ref mR, .ref mD, .null, vi 0, vi 0, vi 0, vi 0, .null, vi 0, .null, vi 0]), (mN, aI g 145 (fun _ => 0)), (mC, aI g 870 (fun _ => 0)), (mL, aI g 56 (fun _ => 0)), (mT, aI g 200 (fun _ => 0)), (mF, aI g 145 (fun _ => 0)), (mR, aI g 10 fr0), (mD, aI g 12 fd0), (mA, aI g 121 (fun _ => 0))]) (lv' := [(0, .ref hM)]) rfl rfl ?_
  refine pf_X12_35 C (ws' := [(hM, oB 11 [vi 0, vi 0, .ref mN, .ref mC, vi 0, vi 0, .ref mL, vi 2, vi 0, vi 0, .ref mT, vi 0, vi 0, vi 0, vi 0, .ref mF, .ref mR, .ref mD, .ref mA, vi 0, vi 0, vi 0, vi 0, .null, vi 0, .null, vi 0]), (mN, aI g 145 (fun _ => 0)), (mC, aI g 870 (fun _ => 0)), (mL, aI g 56 (fun _ => 0)), (mT, aI g 200 (fun _ => 0)), (mF, aI g 145 (fun _ => 0)), (mR, aI g 10 fr0), (mD, aI g 12 fd0), (mA, aI g 121 (fun _ => 0))]) hnm dX12_init_181 0 rfl (Nat.le_of_ble_eq_true rfl) rfl ?_
  refine r_aload_n C dX12_init_184 0 rfl ?_
  refine r_sipush C dX12_init_185 rfl ?_
  refine r_newi C 2904 (in_r4 (List.mem_of_getElem? (i := 3) rfl)) dX12_init_188 rfl rfl rfl (fun mK => ?_)
  refine r_at (ws' := [(hM, oB 11 [vi 0, vi 0, .ref mN, .ref mC, vi 0, vi 0, .ref mL, vi 2, vi 0, vi 0, .ref mT, vi 0, vi 0, vi 0, vi 0, .ref mF, .ref mR, .ref mD, .ref mA, vi 0, vi 0, vi 0, vi 0, .null, vi 0, .null, vi 0]), (mN, aI g 145 (fun _ => 0)), (mC, aI g 870 (fun _ => 0)), (mL, aI g 56 (fun _ => 0)), (mT, aI g 200 (fun _ => 0)), (mF, aI g 145 (fun _ => 0)), (mR, aI g 10 fr0), (mD, aI g 12 fd0), (mA, aI g 121 (fun _ => 0)), (mK, aI g 2904 (fun _ => 0))]) (lv' := [(0, .ref hM)]) rfl rfl ?_
  refine pf_X12_38 C (ws' := [(hM, oB 11 [vi 0, vi 0, .ref mN, .ref mC, vi 0, vi 0, .ref mL, vi 2, vi 0, vi 0, .ref mT, vi 0, vi 0, vi 0, vi 0, .ref mF, .ref mR, .ref mD, .ref mA, vi 0, vi 0, vi 0, vi 0, .ref mK, vi 0, .null, vi 0]), (mN, aI g 145 (fun _ => 0)), (mC, aI g 870 (fun _ => 0)), (mL, aI g 56 (fun _ => 0)), (mT, aI g 200 (fun _ => 0)), (mF, aI g 145 (fun _ => 0)), (mR, aI g 10 fr0), (mD, aI g 12 fd0), (mA, aI g 121 (fun _ => 0)), (mK, aI g 2904 (fun _ => 0))]) hnm dX12_init_190 0 rfl (Nat.le_of_ble_eq_true rfl) rfl ?_
  refine r_aload_n C dX12_init_193 0 rfl ?_
  refine r_bipush C dX12_init_194 rfl ?_
  refine r_newi C 10 (in_r4 (List.mem_of_getElem? (i := 3) rfl)) dX12_init_196 rfl rfl rfl (fun mH => ?_)
  refine r_at (ws' := [(hM, oB 11 [vi 0, vi 0, .ref mN, .ref mC, vi 0, vi 0, .ref mL, vi 2, vi 0, vi 0, .ref mT, vi 0, vi 0, vi 0, vi 0, .ref mF, .ref mR, .ref mD, .ref mA, vi 0, vi 0, vi 0, vi 0, .ref mK, vi 0, .null, vi 0]), (mN, aI g 145 (fun _ => 0)), (mC, aI g 870 (fun _ => 0)), (mL, aI g 56 (fun _ => 0)), (mT, aI g 200 (fun _ => 0)), (mF, aI g 145 (fun _ => 0)), (mR, aI g 10 fr0), (mD, aI g 12 fd0), (mA, aI g 121 (fun _ => 0)), (mK, aI g 2904 (fun _ => 0)), (mH, aI g 10 (fun _ => 0))]) (lv' := [(0, .ref hM)]) rfl rfl ?_
  refine pf_X12_41 C (ws' := [(hM, oB 11 [vi 0, vi 0, .ref mN, .ref mC, vi 0, vi 0, .ref mL, vi 2, vi 0, vi 0, .ref mT, vi 0, vi 0, vi 0, vi 0, .ref mF, .ref mR, .ref mD, .ref mA, vi 0, vi 0, vi 0, vi 0, .ref mK, vi 0, .ref mH, vi 0]), (mN, aI g 145 (fun _ => 0)), (mC, aI g 870 (fun _ => 0)), (mL, aI g 56 (fun _ => 0)), (mT, aI g 200 (fun _ => 0)), (mF, aI g 145 (fun _ => 0)), (mR, aI g 10 fr0), (mD, aI g 12 fd0), (mA, aI g 121 (fun _ => 0)), (mK, aI g 2904 (fun _ => 0)), (mH, aI g 10 (fun _ => 0))]) hnm dX12_init_198 0 rfl (Nat.le_of_ble_eq_true rfl) rfl ?_
  refine r_aload_n C dX12_init_201 0 rfl ?_
  refine r_bipush C dX12_init_202 rfl ?_
  refine pf_X12_44 C (ws' := [(hM, oB 11 [vi 10, vi 0, .ref mN, .ref mC, vi 0, vi 0, .ref mL, vi 2, vi 0, vi 0, .ref mT, vi 0, vi 0, vi 0, vi 0, .ref mF, .ref mR, .ref mD, .ref mA, vi 0, vi 0, vi 0, vi 0, .ref mK, vi 0, .ref mH, vi 0]), (mN, aI g 145 (fun _ => 0)), (mC, aI g 870 (fun _ => 0)), (mL, aI g 56 (fun _ => 0)), (mT, aI g 200 (fun _ => 0)), (mF, aI g 145 (fun _ => 0)), (mR, aI g 10 fr0), (mD, aI g 12 fd0), (mA, aI g 121 (fun _ => 0)), (mK, aI g 2904 (fun _ => 0)), (mH, aI g 10 (fun _ => 0))]) dX12_init_204 0 rfl (Nat.le_of_ble_eq_true rfl) rfl ?_
  refine r_aload_n C dX12_init_207 0 rfl ?_
  refine r_bipush C dX12_init_208 rfl ?_
  refine pf_X12_47 C (ws' := [(hM, oB 11 [vi 10, vi 10, .ref mN, .ref mC, vi 0, vi 0, .ref mL, vi 2, vi 0, vi 0, .ref mT, vi 0, vi 0, vi 0, vi 0, .ref mF, .ref mR, .ref mD, .ref mA, vi 0, vi 0, vi 0, vi 0, .ref mK, vi 0, .ref mH, vi 0]), (mN, aI g 145 (fun _ => 0)), (mC, aI g 870 (fun _ => 0)), (mL, aI g 56 (fun _ => 0)), (mT, aI g 200 (fun _ => 0)), (mF, aI g 145 (fun _ => 0)), (mR, aI g 10 fr0), (mD, aI g 12 fd0), (mA, aI g 121 (fun _ => 0)), (mK, aI g 2904 (fun _ => 0)), (mH, aI g 10 (fun _ => 0))]) dX12_init_210 0 rfl (Nat.le_of_ble_eq_true rfl) rfl ?_
  refine r_iconst C dX12_init_213 ?_
  refine r_istore_n C (lv' := [(1, vi 0), (0, .ref hM)]) dX12_init_214 rfl rfl ?_
  refine r_lv (lv' := [(0, .ref hM), (1, vi 0)]) [1, 0] rfl ?_
  refine r_loop (σ := Int × (Int → Int)) (fun z_ => (0 ≤ z_.1 ∧ z_.1 ≤ 100) ∧ (z_.2 = gN0 z_.1)) (fun z_ => 100 - z_.1) (fun z_ => [(hM, oB 11 [vi 10, vi 10, .ref mN, .ref mC, vi 0, vi 0, .ref mL, vi 2, vi 0, vi 0, .ref mT, vi 0, vi 0, vi 0, vi 0, .ref mF, .ref mR, .ref mD, .ref mA, vi 0, vi 0, vi 0, vi 0, .ref mK, vi 0, .ref mH, vi 0]), (mN, aI g 145 z_.2), (mC, aI g 870 (fun _ => 0)), (mL, aI g 56 (fun _ => 0)), (mT, aI g 200 (fun _ => 0)), (mF, aI g 145 (fun _ => 0)), (mR, aI g 10 fr0), (mD, aI g 12 fd0), (mA, aI g 121 (fun _ => 0)), (mK, aI g 2904 (fun _ => 0)), (mH, aI g 10 (fun _ => 0))]) (fun z_ => [(0, .ref hM), (1, vi z_.1)]) (fun z_ hz => ?_) (fun z_ hz ih_215 => ?_) (((0, fun _ => 0) : Int × (Int → Int))) ?_
  · obtain ⟨i, P⟩ := z_
    obtain ⟨ji, jP⟩ := hz
    have ji : 0 ≤ i ∧ i ≤ 100 := ji
    have jP : P = gN0 i := jP
    show (0 : Int) ≤ 100 - i
    omega
  rotate_left
  · show (0 ≤ 0 ∧ 0 ≤ 100) ∧ ((fun _ => 0) = gN0 0)
    exact ⟨(by decide), (gN0_0)⟩
  obtain ⟨i, P⟩ := z_
  obtain ⟨ji, jP⟩ := hz
  have ji : 0 ≤ i ∧ i ≤ 100 := ji
  have jP : P = gN0 i := jP
  refine r_at (ws' := [(hM, oB 11 [vi 10, vi 10, .ref mN, .ref mC, vi 0, vi 0, .ref mL, vi 2, vi 0, vi 0, .ref mT, vi 0, vi 0, vi 0, vi 0, .ref mF, .ref mR, .ref mD, .ref mA, vi 0, vi 0, vi 0, vi 0, .ref mK, vi 0, .ref mH, vi 0]), (mN, aI g 145 P), (mC, aI g 870 (fun _ => 0)), (mL, aI g 56 (fun _ => 0)), (mT, aI g 200 (fun _ => 0)), (mF, aI g 145 (fun _ => 0)), (mR, aI g 10 fr0), (mD, aI g 12 fd0), (mA, aI g 121 (fun _ => 0)), (mK, aI g 2904 (fun _ => 0)), (mH, aI g 10 (fun _ => 0))]) (lv' := [(0, .ref hM), (1, vi i)]) rfl rfl ?_
  refine r_iload_n C dX12_init_215 1 rfl ?_
  refine r_bipush C dX12_init_216 rfl ?_
  refine r_icmp_ge C 259 dX12_init_218 rfl (by omega) (fun c_1 => ?_) (fun c_1 => ?_)
  · skip
    have hi9 : i = 100 := by omega
    refine r_ext C (f' := (gN0 100)) (ws' := [(hM, oB 11 [vi 10, vi 10, .ref mN, .ref mC, vi 0, vi 0, .ref mL, vi 2, vi 0, vi 0, .ref mT, vi 0, vi 0, vi 0, vi 0, .ref mF, .ref mR, .ref mD, .ref mA, vi 0, vi 0, vi 0, vi 0, .ref mK, vi 0, .ref mH, vi 0]), (mN, aI g 145 (gN0 100)), (mC, aI g 870 (fun _ => 0)), (mL, aI g 56 (fun _ => 0)), (mT, aI g 200 (fun _ => 0)), (mF, aI g 145 (fun _ => 0)), (mR, aI g 10 fr0), (mD, aI g 12 fd0), (mA, aI g 121 (fun _ => 0)), (mK, aI g 2904 (fun _ => 0)), (mH, aI g 10 (fun _ => 0))]) 1 rfl (fun k h0 h1 => by rw [jP, hi9]) rfl ?_
    refine r_iconst C dX12_init_259 ?_
    refine r_istore_n C (lv' := [(1, vi 0), (0, .ref hM)]) dX12_init_260 rfl rfl ?_
    refine r_lv (lv' := [(0, .ref hM), (1, vi 0)]) [1, 0] rfl ?_
    refine r_loop (σ := Int × (Int → Int)) (fun z_ => (0 ≤ z_.1 ∧ z_.1 ≤ 6) ∧ (z_.2 = dN0 (Int.toNat z_.1))) (fun z_ => 6 - z_.1) (fun z_ => [(hM, oB 11 [vi 10, vi 10, .ref mN, .ref mC, vi 0, vi 0, .ref mL, vi 2, vi 0, vi 0, .ref mT, vi 0, vi 0, vi 0, vi 0, .ref mF, .ref mR, .ref mD, .ref mA, vi 0, vi 0, vi 0, vi 0, .ref mK, vi 0, .ref mH, vi 0]), (mN, aI g 145 z_.2), (mC, aI g 870 (fun _ => 0)), (mL, aI g 56 (fun _ => 0)), (mT, aI g 200 (fun _ => 0)), (mF, aI g 145 (fun _ => 0)), (mR, aI g 10 fr0), (mD, aI g 12 fd0), (mA, aI g 121 (fun _ => 0)), (mK, aI g 2904 (fun _ => 0)), (mH, aI g 10 (fun _ => 0))]) (fun z_ => [(0, .ref hM), (1, vi z_.1)]) (fun z_ hz => ?_) (fun z_ hz ih_261 => ?_) (((0, gN0 100) : Int × (Int → Int))) ?_
    · obtain ⟨d, P2⟩ := z_
      obtain ⟨jd, jR⟩ := hz
      have jd : 0 ≤ d ∧ d ≤ 6 := jd
      have jR : P2 = dN0 (Int.toNat d) := jR
      show (0 : Int) ≤ 6 - d
      omega
    rotate_left
    · show (0 ≤ 0 ∧ 0 ≤ 6) ∧ ((gN0 100) = dN0 (Int.toNat 0))
      exact ⟨(by decide), (rfl)⟩
    obtain ⟨d, P2⟩ := z_
    obtain ⟨jd, jR⟩ := hz
    have jd : 0 ≤ d ∧ d ≤ 6 := jd
    have jR : P2 = dN0 (Int.toNat d) := jR
    refine r_at (ws' := [(hM, oB 11 [vi 10, vi 10, .ref mN, .ref mC, vi 0, vi 0, .ref mL, vi 2, vi 0, vi 0, .ref mT, vi 0, vi 0, vi 0, vi 0, .ref mF, .ref mR, .ref mD, .ref mA, vi 0, vi 0, vi 0, vi 0, .ref mK, vi 0, .ref mH, vi 0]), (mN, aI g 145 P2), (mC, aI g 870 (fun _ => 0)), (mL, aI g 56 (fun _ => 0)), (mT, aI g 200 (fun _ => 0)), (mF, aI g 145 (fun _ => 0)), (mR, aI g 10 fr0), (mD, aI g 12 fd0), (mA, aI g 121 (fun _ => 0)), (mK, aI g 2904 (fun _ => 0)), (mH, aI g 10 (fun _ => 0))]) (lv' := [(0, .ref hM), (1, vi d)]) rfl rfl ?_
    refine r_iload_n C dX12_init_261 1 rfl ?_
    refine r_bipush C dX12_init_262 rfl ?_
    refine r_icmp_ge C 298 dX12_init_264 rfl (by omega) (fun c_2 => ?_) (fun c_2 => ?_)
    · skip
      have hi6 : d = 6 := by omega
      refine r_ext C (f' := (dN0 6)) (ws' := [(hM, oB 11 [vi 10, vi 10, .ref mN, .ref mC, vi 0, vi 0, .ref mL, vi 2, vi 0, vi 0, .ref mT, vi 0, vi 0, vi 0, vi 0, .ref mF, .ref mR, .ref mD, .ref mA, vi 0, vi 0, vi 0, vi 0, .ref mK, vi 0, .ref mH, vi 0]), (mN, aI g 145 (dN0 6)), (mC, aI g 870 (fun _ => 0)), (mL, aI g 56 (fun _ => 0)), (mT, aI g 200 (fun _ => 0)), (mF, aI g 145 (fun _ => 0)), (mR, aI g 10 fr0), (mD, aI g 12 fd0), (mA, aI g 121 (fun _ => 0)), (mK, aI g 2904 (fun _ => 0)), (mH, aI g 10 (fun _ => 0))]) 1 rfl (fun k h0 h1 => by rw [jR, hi6]; rfl) rfl ?_
      refine r_aload_n C dX12_init_298 0 rfl ?_
      refine gf_X12_7 C dX12_init_299 0 rfl rfl ?_
      refine r_sipush C dX12_init_302 rfl ?_
      refine r_iconst C dX12_init_305 ?_
      refine r_iast C (ws' := [(hM, oB 11 [vi 10, vi 10, .ref mN, .ref mC, vi 0, vi 0, .ref mL, vi 2, vi 0, vi 0, .ref mT, vi 0, vi 0, vi 0, vi 0, .ref mF, .ref mR, .ref mD, .ref mA, vi 0, vi 0, vi 0, vi 0, .ref mK, vi 0, .ref mH, vi 0]), (mN, aI g 145 (zU (dN0 6) 142 1)), (mC, aI g 870 (fun _ => 0)), (mL, aI g 56 (fun _ => 0)), (mT, aI g 200 (fun _ => 0)), (mF, aI g 145 (fun _ => 0)), (mR, aI g 10 fr0), (mD, aI g 12 fd0), (mA, aI g 121 (fun _ => 0)), (mK, aI g 2904 (fun _ => 0)), (mH, aI g 10 (fun _ => 0))]) dX12_init_306 1 rfl rfl (by omega) rfl ?_
      refine r_aload_n C dX12_init_307 0 rfl ?_
      refine gf_X12_7 C dX12_init_308 0 rfl rfl ?_
      refine r_sipush C dX12_init_311 rfl ?_
      refine r_bipush C dX12_init_314 rfl ?_
      refine r_iast C (ws' := [(hM, oB 11 [vi 10, vi 10, .ref mN, .ref mC, vi 0, vi 0, .ref mL, vi 2, vi 0, vi 0, .ref mT, vi 0, vi 0, vi 0, vi 0, .ref mF, .ref mR, .ref mD, .ref mA, vi 0, vi 0, vi 0, vi 0, .ref mK, vi 0, .ref mH, vi 0]), (mN, aI g 145 (zU (zU (dN0 6) 142 1) 143 20)), (mC, aI g 870 (fun _ => 0)), (mL, aI g 56 (fun _ => 0)), (mT, aI g 200 (fun _ => 0)), (mF, aI g 145 (fun _ => 0)), (mR, aI g 10 fr0), (mD, aI g 12 fd0), (mA, aI g 121 (fun _ => 0)), (mK, aI g 2904 (fun _ => 0)), (mH, aI g 10 (fun _ => 0))]) dX12_init_316 1 rfl rfl (by omega) rfl ?_
      exact e_vM C (mN, mC, mL, mT, mF, mR, mD, mA, mK, mH) dX12_init_317 (trivial) rfl rfl rfl
    · skip
      refine r_aload_n C dX12_init_267 0 rfl ?_
      refine gf_X12_7 C dX12_init_268 0 rfl rfl ?_
      refine r_aload_n C dX12_init_271 0 rfl ?_
      refine gf_X12_32 C dX12_init_272 0 rfl rfl ?_
      refine r_iconst C dX12_init_275 ?_
      refine r_iload_n C dX12_init_276 1 rfl ?_
      refine r_imul C dX12_init_277 ?_
      refine r_iald C dX12_init_278 7 rfl rfl (by omega) ?_
      refine r_aload_n C dX12_init_279 0 rfl ?_
      refine gf_X12_32 C dX12_init_280 0 rfl rfl ?_
      refine r_iconst C dX12_init_283 ?_
      refine r_iload_n C dX12_init_284 1 rfl ?_
      refine r_imul C dX12_init_285 ?_
      refine r_iconst C dX12_init_286 ?_
      refine r_iadd C dX12_init_287 ?_
      refine r_iald C dX12_init_288 7 rfl rfl (by omega) ?_
      refine k_Sv C ks_X12_54 (fun sz => c_X12_comesDot l g mN P2 (fd0 (2 * d)) (fd0 ((2 * d) + 1)) (by rw [jR, dN0_n]; omega) sz) dX12_init_289 rfl rfl rfl ⟨rfl, rfl⟩ [1] rfl rfl (fun _ => rfl) (ws' := fun u_ => [(hM, oB 11 [vi 10, vi 10, .ref mN, .ref mC, vi 0, vi 0, .ref mL, vi 2, vi 0, vi 0, .ref mT, vi 0, vi 0, vi 0, vi 0, .ref mF, .ref mR, .ref mD, .ref mA, vi 0, vi 0, vi 0, vi 0, .ref mK, vi 0, .ref mH, vi 0]), (mN, aI g 145 (cnR P2 (fd0 (2 * d)) (fd0 ((2 * d) + 1)))), (mC, aI g 870 (fun _ => 0)), (mL, aI g 56 (fun _ => 0)), (mT, aI g 200 (fun _ => 0)), (mF, aI g 145 (fun _ => 0)), (mR, aI g 10 fr0), (mD, aI g 12 fd0), (mA, aI g 121 (fun _ => 0)), (mK, aI g 2904 (fun _ => 0)), (mH, aI g 10 (fun _ => 0))]) (fun _ => rfl) (fun u_ p_289 => ?_)
      refine r_iinc C (lv' := [(1, vi (d + 1)), (0, .ref hM)]) dX12_init_292 1 rfl rfl rfl ?_
      refine r_goto C 261 dX12_init_295 rfl ?_
      refine r_lv (lv' := [(0, .ref hM), (1, vi (d + 1))]) [1, 0] rfl ?_
      exact ih_261 (d + 1, cnR P2 (fd0 (2 * d)) (fd0 ((2 * d) + 1))) (show (0 ≤ (d + 1) ∧ (d + 1) ≤ 6) ∧ ((cnR P2 (fd0 (2 * d)) (fd0 ((2 * d) + 1))) = dN0 (Int.toNat (d + 1))) from ⟨(by omega), (by rw [jR]; exact dN0_s jd.1)⟩) (show 6 - (d + 1) < 6 - d from by omega)
  · skip
    have hfb := fr0_b (i / 10)
    refine r_aload_n C dX12_init_221 0 rfl ?_
    refine gf_X12_7 C dX12_init_222 0 rfl rfl ?_
    refine r_iload_n C dX12_init_225 1 rfl ?_
    refine r_bipush C dX12_init_226 rfl ?_
    refine r_irem C dX12_init_228 (by omega) ?_
    refine r_iload_n C dX12_init_229 1 rfl ?_
    refine r_bipush C dX12_init_230 rfl ?_
    refine r_idiv C dX12_init_232 (by omega) ?_
    refine k_Si C ks_X12_50 (fun sz => c_X12_at l g (i % 10) (i / 10) sz) dX12_init_233 rfl rfl rfl ⟨rfl, rfl⟩ [] rfl rfl (fun _ => rfl) (ws' := fun u_ => [(hM, oB 11 [vi 10, vi 10, .ref mN, .ref mC, vi 0, vi 0, .ref mL, vi 2, vi 0, vi 0, .ref mT, vi 0, vi 0, vi 0, vi 0, .ref mF, .ref mR, .ref mD, .ref mA, vi 0, vi 0, vi 0, vi 0, .ref mK, vi 0, .ref mH, vi 0]), (mN, aI g 145 P), (mC, aI g 870 (fun _ => 0)), (mL, aI g 56 (fun _ => 0)), (mT, aI g 200 (fun _ => 0)), (mF, aI g 145 (fun _ => 0)), (mR, aI g 10 fr0), (mD, aI g 12 fd0), (mA, aI g 121 (fun _ => 0)), (mK, aI g 2904 (fun _ => 0)), (mH, aI g 10 (fun _ => 0))]) (fun _ => rfl) (fun r_233 u_ p_233 => ?_)
    have p_233 : r_233 = 11 * (i / 10) + (i % 10) := p_233
    refine r_eq (y := (11 * (i / 10) + i % 10)) p_233 ?_
    refine r_aload_n C dX12_init_236 0 rfl ?_
    refine gf_X12_29 C dX12_init_237 0 rfl rfl ?_
    refine r_iload_n C dX12_init_240 1 rfl ?_
    refine r_bipush C dX12_init_241 rfl ?_
    refine r_idiv C dX12_init_243 (by omega) ?_
    refine r_iald C dX12_init_244 6 rfl rfl (by omega) ?_
    refine r_iload_n C dX12_init_245 1 rfl ?_
    refine r_bipush C dX12_init_246 rfl ?_
    refine r_irem C dX12_init_248 (by omega) ?_
    refine r_ishr C (z := (fr0 (i / 10) / 2 ^ (i % 10).toNat)) dX12_init_249 (z_shr (by omega) (by omega)) ?_
    refine r_iconst C dX12_init_250 ?_
    refine r_iand C (z := (tb (fr0 (i / 10)) (i % 10))) dX12_init_251 (z_and1 (z_half (by omega) (by omega))) ?_
    refine r_iast C (ws' := [(hM, oB 11 [vi 10, vi 10, .ref mN, .ref mC, vi 0, vi 0, .ref mL, vi 2, vi 0, vi 0, .ref mT, vi 0, vi 0, vi 0, vi 0, .ref mF, .ref mR, .ref mD, .ref mA, vi 0, vi 0, vi 0, vi 0, .ref mK, vi 0, .ref mH, vi 0]), (mN, aI g 145 (zU P (11 * (i / 10) + i % 10) (tb (fr0 (i / 10)) (i % 10)))), (mC, aI g 870 (fun _ => 0)), (mL, aI g 56 (fun _ => 0)), (mT, aI g 200 (fun _ => 0)), (mF, aI g 145 (fun _ => 0)), (mR, aI g 10 fr0), (mD, aI g 12 fd0), (mA, aI g 121 (fun _ => 0)), (mK, aI g 2904 (fun _ => 0)), (mH, aI g 10 (fun _ => 0))]) dX12_init_252 1 rfl rfl (by omega) rfl ?_
    refine r_iinc C (lv' := [(1, vi (i + 1)), (0, .ref hM)]) dX12_init_253 1 rfl rfl rfl ?_
    refine r_goto C 215 dX12_init_256 rfl ?_
    refine r_lv (lv' := [(0, .ref hM), (1, vi (i + 1))]) [1, 0] rfl ?_
    exact ih_215 (i + 1, zU P (11 * (i / 10) + i % 10) (tb (fr0 (i / 10)) (i % 10))) (show (0 ≤ (i + 1) ∧ (i + 1) ≤ 100) ∧ ((zU P (11 * (i / 10) + i % 10) (tb (fr0 (i / 10)) (i % 10))) = gN0 (i + 1)) from ⟨(by omega), (by rw [jP]; exact gN0_s (by omega))⟩) (show 100 - (i + 1) < 100 - i from by omega)
