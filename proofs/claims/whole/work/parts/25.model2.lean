set_option maxHeartbeats 1000000 in
set_option maxRecDepth 100000 in
theorem c_X12_readsItem (l : Launch) (g : Gx) (hM : Nat) (wi : Int) (hi : Int) (mN : Nat) (mC : Nat) (cm : Int) (ca : Int) (mL : Nat) (sc : Int) (qu : Int) (fp : Int) (mT : Nat) (lm : Int) (nw : Int) (nh : Int) (nr : Int) (mF : Nat) (mR : Nat) (mD : Nat) (mA : Nat) (ii : Int) (wo : Int) (wd : Int) (oe : Int) (mK : Nat) (rm : Int) (mH : Nat) (cn : Int) (Tx : Int → Int) (Fr : Int → Int) (S : PSt) (k : Int) (kl : 0 ≤ lm ∧ lm ≤ 200) (kT : ∀ k : Int, 0 ≤ k → k < 200 → 0 ≤ Tx k ∧ Tx k ≤ 65535) (kk : 0 ≤ k ∧ k ≤ 200) (hok : PSok S) (hpr : PRL nw nh nr Fr k S) (sz : Nat) : Met l yX12_readsItem (.code yX12_readsItem cX12_readsItem 3 (some .int) :: wsL_law) { frames := 3, cells := 0, slots := 0, locals := 63 } (PR g [.ref hM, vi k] [(hM, oB 11 [vi wi, vi hi, .ref mN, .ref mC, vi cm, vi ca, .ref mL, vi sc, vi qu, vi fp, .ref mT, vi lm, vi nw, vi nh, vi nr, .ref mF, .ref mR, .ref mD, .ref mA, vi ii, vi wo, vi wd, vi oe, .ref mK, vi rm, .ref mH, vi cn]), (mT, aI g 200 Tx), (mF, aI g 145 Fr)] sz) (PI (S := Int × Int × Int × (Int → Int)) g (fun r u_ => (r = -4 ∧ itm (ltr Tx lm) k S = none) ∨ (0 ≤ r ∧ r ≤ 11 ∧ ((ltr Tx lm (k + 1 + r) = 59 ∧ ∃ T9 : PSt, itm (ltr Tx lm) k S = some (r + 2, T9) ∧ PRL u_.1 u_.2.1 u_.2.2.1 u_.2.2.2 (k + (r + 2)) T9) ∨ (¬ ltr Tx lm (k + 1 + r) = 59 ∧ itm (ltr Tx lm) k S = none)))) (fun u_ => [(hM, oB 11 [vi wi, vi hi, .ref mN, .ref mC, vi cm, vi ca, .ref mL, vi sc, vi qu, vi fp, .ref mT, vi lm, vi u_.1, vi u_.2.1, vi u_.2.2.1, .ref mF, .ref mR, .ref mD, .ref mA, vi ii, vi wo, vi wd, vi oe, .ref mK, vi rm, .ref mH, vi cn]), (mT, aI g 200 Tx), (mF, aI g 145 u_.2.2.2)]) [(hM, oB 11 [vi wi, vi hi, .ref mN, .ref mC, vi cm, vi ca, .ref mL, vi sc, vi qu, vi fp, .ref mT, vi lm, vi nw, vi nh, vi nr, .ref mF, .ref mR, .ref mD, .ref mA, vi ii, vi wo, vi wd, vi oe, .ref mK, vi rm, .ref mH, vi cn]), (mT, aI g 200 Tx), (mF, aI g 145 Fr)] sz) 0 0 (va_A [(hM, oB 11 [vi wi, vi hi, .ref mN, .ref mC, vi cm, vi ca, .ref mL, vi sc, vi qu, vi fp, .ref mT, vi lm, vi nw, vi nh, vi nr, .ref mF, .ref mR, .ref mD, .ref mA, vi ii, vi wo, vi wd, vi oe, .ref mK, vi rm, .ref mH, vi cn]), (mT, aI g 200 Tx), (mF, aI g 145 Fr)] sz) := by
  refine meet (own := RX12) rfl (plainFor_of_name (by decide +kernel)) rfl (fun p_ e_ s_ m_ args_ below_ meth_ c_ C hnm => ?_)
  refine r_at (ws' := [(hM, oB 11 [vi wi, vi hi, .ref mN, .ref mC, vi cm, vi ca, .ref mL, vi sc, vi qu, vi fp, .ref mT, vi lm, vi nw, vi nh, vi nr, .ref mF, .ref mR, .ref mD, .ref mA, vi ii, vi wo, vi wd, vi oe, .ref mK, vi rm, .ref mH, vi cn]), (mT, aI g 200 Tx), (mF, aI g 145 Fr)]) (lv' := [(0, .ref hM), (1, vi k)]) rfl rfl ?_
  have hlb : ∀ j : Int, 0 ≤ ltr Tx lm j ∧ ltr Tx lm j ≤ 65535 := fun j => by unfold ltr; split; exact kT j (by omega) (by omega); omega
  obtain ⟨td, w, h, rw, f, n, X, Y, m, c⟩ := S
  obtain ⟨o1, o2, o3, o4, o5, o6, o7, o8, o9, o10, o11, o12⟩ := id hok
  obtain ⟨q1, q2, q3, q4, q5, q6, q7, q8, q9, q10⟩ := id hpr
  have lb0 := hlb k
  refine r_aload_n C dX12_readsItem_0 0 rfl ?_
  refine r_iload_n C dX12_readsItem_1 1 rfl ?_
  refine k_Vi C kv_X12_65 (fun sz => c_X12_letter l g hM wi hi mN mC cm ca mL sc qu fp mT lm nw nh nr mF mR mD mA ii wo wd oe mK rm mH cn Tx k (by omega) (by omega) sz) dX12_readsItem_2 rfl rfl rfl ⟨rfl, rfl⟩ 0 11 rfl rfl rfl [0, 1] rfl rfl (fun _ => rfl) (ws' := fun u_ => [(hM, oB 11 [vi wi, vi hi, .ref mN, .ref mC, vi cm, vi ca, .ref mL, vi sc, vi qu, vi fp, .ref mT, vi lm, vi nw, vi nh, vi nr, .ref mF, .ref mR, .ref mD, .ref mA, vi ii, vi wo, vi wd, vi oe, .ref mK, vi rm, .ref mH, vi cn]), (mT, aI g 200 Tx), (mF, aI g 145 Fr)]) (fun _ => rfl) (fun r_2 u_ p_2 => ?_)
  have p_2 : r_2 = ltr Tx lm k := p_2
  refine r_eq (y := (ltr Tx lm k)) p_2 ?_
  refine r_istore_n C (lv' := [(2, vi (ltr Tx lm k)), (0, .ref hM), (1, vi k)]) dX12_readsItem_5 rfl rfl ?_
  refine r_iload_n C dX12_readsItem_6 0 rfl ?_
  refine r_bipush C dX12_readsItem_7 rfl ?_
  refine r_icmp_ne C 27 dX12_readsItem_9 rfl (by omega) (fun c_1 => ?_) (fun c_1 => ?_)
  · skip
    refine r_iload_n C dX12_readsItem_27 2 rfl ?_
    refine r_if_ne C 34 dX12_readsItem_28 rfl (by omega) (fun c_2 => ?_) (fun c_2 => ?_)
    · skip
      have htd : td = 1 := by omega
      subst htd
      obtain ⟨e1, e2, e3, e4⟩ := q2 rfl
      refine r_iload_n C dX12_readsItem_34 0 rfl ?_
      by_cases c_3 : (ltr Tx lm k) = 100
      · refine r_look C 86 (v := 100) dX12_readsItem_35 c_3 (by decide) rfl rfl rfl ?_
        refine r_aload_n C dX12_readsItem_86 1 rfl ?_
        refine r_iload_n C dX12_readsItem_87 2 rfl ?_
        refine k_Vi C kv_X12_92 (fun sz => c_X12_readsDot l g hM wi hi mN mC cm ca mL sc qu fp mT lm nw nh nr mF mR mD mA ii wo wd oe mK rm mH cn Tx Fr k (by omega) (by omega) (by omega) (by rw [q4]; exact o7) q9 q10 sz) dX12_readsItem_88 rfl rfl rfl ⟨rfl, rfl⟩ 0 11 rfl rfl rfl [0, 1, 2] rfl rfl (fun _ => rfl) (ws' := fun u_ => [(hM, oB 11 [vi wi, vi hi, .ref mN, .ref mC, vi cm, vi ca, .ref mL, vi sc, vi qu, vi fp, .ref mT, vi lm, vi nw, vi nh, vi nr, .ref mF, .ref mR, .ref mD, .ref mA, vi ii, vi wo, vi wd, vi oe, .ref mK, vi rm, .ref mH, vi cn]), (mT, aI g 200 Tx), (mF, aI g 145 u_)]) (fun _ => rfl) (fun r_88 u_ p_88 => ?_)
        obtain ⟨F2_88, rfl⟩ : ∃ w_, w_ = u_ := ⟨_, rfl⟩
        refine r_at (ws' := [(hM, oB 11 [vi wi, vi hi, .ref mN, .ref mC, vi cm, vi ca, .ref mL, vi sc, vi qu, vi fp, .ref mT, vi lm, vi nw, vi nh, vi nr, .ref mF, .ref mR, .ref mD, .ref mA, vi ii, vi wo, vi wd, vi oe, .ref mK, vi rm, .ref mH, vi cn]), (mT, aI g 200 Tx), (mF, aI g 145 F2_88)]) (lv' := [(2, vi (ltr Tx lm k)), (0, .ref hM), (1, vi k)]) rfl rfl ?_
        have p_88 : (r_88 = 1 ∧ ((-5 ≤ ltr Tx lm (k + 1) - 102 ∧ ltr Tx lm (k + 1) - 102 ≤ 5) ∧ (-5 ≤ ltr Tx lm (k + 2) - 102 ∧ ltr Tx lm (k + 2) - 102 ≤ 5) ∧ Fr 141 < 10 ∧ ∀ d : Int, 0 ≤ d → d < Fr 141 → ¬ (Fr (121 + d) = ltr Tx lm (k + 1) - 102 ∧ Fr (131 + d) = ltr Tx lm (k + 2) - 102)) ∧ F2_88 = cnR Fr (ltr Tx lm (k + 1) - 102) (ltr Tx lm (k + 2) - 102)) ∨ (r_88 = 0 ∧ ¬ ((-5 ≤ ltr Tx lm (k + 1) - 102 ∧ ltr Tx lm (k + 1) - 102 ≤ 5) ∧ (-5 ≤ ltr Tx lm (k + 2) - 102 ∧ ltr Tx lm (k + 2) - 102 ≤ 5) ∧ Fr 141 < 10 ∧ ∀ d : Int, 0 ≤ d → d < Fr 141 → ¬ (Fr (121 + d) = ltr Tx lm (k + 1) - 102 ∧ Fr (131 + d) = ltr Tx lm (k + 2) - 102))) := p_88
        refine r_if_eq C 98 dX12_readsItem_91 rfl (by omega) (fun c_4 => ?_) (fun c_4 => ?_)
        · skip
          refine r_bipush C dX12_readsItem_98 rfl ?_
          exact e_i C (nw, nh, nr, F2_88) dX12_readsItem_100 (show ((-4) = -4 ∧ itm (ltr Tx lm) k (1, w, h, rw, f, n, X, Y, m, c) = none) ∨ (0 ≤ (-4) ∧ (-4) ≤ 11 ∧ ((ltr Tx lm (k + 1 + (-4)) = 59 ∧ ∃ T9 : PSt, itm (ltr Tx lm) k (1, w, h, rw, f, n, X, Y, m, c) = some ((-4) + 2, T9) ∧ PRL nw nh nr F2_88 (k + ((-4) + 2)) T9) ∨ (¬ ltr Tx lm (k + 1 + (-4)) = 59 ∧ itm (ltr Tx lm) k (1, w, h, rw, f, n, X, Y, m, c) = none))) from Or.inl ⟨rfl, by
      rcases p_88 with ⟨z1, z2, z3⟩ | ⟨z1, z2⟩
      · omega
      · rw [itm_eq, if_neg (by decide), if_neg (by omega), if_pos (by omega), pif_f (fun z => z2 ⟨z.1, z.2.1, by have := z.2.2.2.1; omega, fun d d0 d1 d2 => z.2.2.2.2 d d0 (by omega) (by have := q5 d d0 (by omega); omega)⟩)]⟩) rfl
        · skip
          refine r_iconst C dX12_readsItem_94 ?_
          refine r_goto C 100 dX12_readsItem_95 rfl ?_
          exact e_i C (nw, nh, nr, F2_88) dX12_readsItem_100 (show (2 = -4 ∧ itm (ltr Tx lm) k (1, w, h, rw, f, n, X, Y, m, c) = none) ∨ (0 ≤ 2 ∧ 2 ≤ 11 ∧ ((ltr Tx lm (k + 1 + 2) = 59 ∧ ∃ T9 : PSt, itm (ltr Tx lm) k (1, w, h, rw, f, n, X, Y, m, c) = some (2 + 2, T9) ∧ PRL nw nh nr F2_88 (k + (2 + 2)) T9) ∨ (¬ ltr Tx lm (k + 1 + 2) = 59 ∧ itm (ltr Tx lm) k (1, w, h, rw, f, n, X, Y, m, c) = none))) from by
      rcases p_88 with ⟨z1, z2, z3⟩ | ⟨z1, z2⟩
      · right
        refine ⟨by decide, by decide, ?_⟩
        by_cases e : ltr Tx lm (k + 1 + 2) = 59
        · left
          refine ⟨e, (1, w, h, rw, f, n + 1, zU X n (ltr Tx lm (k + 1) - 102), zU Y n (ltr Tx lm (k + 2) - 102), m, c), ?_, ?_⟩
          · rw [itm_eq, if_neg (by decide), if_neg (by omega), if_pos (by omega), pif_t ⟨z2.1, z2.2.1, by rw [← e]; congr 1; omega, by have := z2.2.2.1; omega, fun d d0 d1 d2 => z2.2.2.2 d d0 (by omega) (by have := q5 d d0 d1; omega)⟩]; rfl
          · rw [z3]; exact PRL_dot (by omega) ⟨by omega, z2.2.2.1⟩ z2.1 z2.2.1 hpr
        · right
          exact ⟨e, by rw [itm_eq, if_neg (by decide), if_neg (by omega), if_pos (by omega), pif_f (fun z => e (by rw [show k + 1 + 2 = k + 3 by omega]; exact z.2.2.1))]⟩
      · omega) rfl
      by_cases c_5 : (ltr Tx lm k) = 109
      · refine r_look C 101 (v := 109) dX12_readsItem_35 c_5 (by decide) rfl rfl rfl ?_
        refine r_aload_n C dX12_readsItem_101 1 rfl ?_
        refine r_iload_n C dX12_readsItem_102 2 rfl ?_
        refine k_Vi C kv_X12_95 (fun sz => c_X12_readsMeasure l g hM wi hi mN mC cm ca mL sc qu fp mT lm nw nh nr mF mR mD mA ii wo wd oe mK rm mH cn Tx Fr k (by omega) (by omega) (by omega) sz) dX12_readsItem_103 rfl rfl rfl ⟨rfl, rfl⟩ 0 11 rfl rfl rfl [0, 1, 2] rfl rfl (fun _ => rfl) (ws' := fun u_ => [(hM, oB 11 [vi wi, vi hi, .ref mN, .ref mC, vi cm, vi ca, .ref mL, vi sc, vi qu, vi fp, .ref mT, vi lm, vi nw, vi nh, vi nr, .ref mF, .ref mR, .ref mD, .ref mA, vi ii, vi wo, vi wd, vi oe, .ref mK, vi rm, .ref mH, vi cn]), (mT, aI g 200 Tx), (mF, aI g 145 (zU (zU Fr 142 (ltr Tx lm (k + 1) - 48)) 143 (10 * (ltr Tx lm (k + 2) - 48) + (ltr Tx lm (k + 3) - 48))))]) (fun _ => rfl) (fun r_103 u_ p_103 => ?_)
        have p_103 : (r_103 = 1 ∧ (0 ≤ ltr Tx lm (k + 1) - 48 ∧ ltr Tx lm (k + 1) - 48 ≤ 2) ∧ (0 ≤ ltr Tx lm (k + 2) - 48 ∧ ltr Tx lm (k + 2) - 48 ≤ 9) ∧ (0 ≤ ltr Tx lm (k + 3) - 48 ∧ ltr Tx lm (k + 3) - 48 ≤ 9) ∧ ¬ ltr Tx lm (k + 2) - 48 + (ltr Tx lm (k + 3) - 48) = 0) ∨ (r_103 = 0 ∧ ¬ ((0 ≤ ltr Tx lm (k + 1) - 48 ∧ ltr Tx lm (k + 1) - 48 ≤ 2) ∧ (0 ≤ ltr Tx lm (k + 2) - 48 ∧ ltr Tx lm (k + 2) - 48 ≤ 9) ∧ (0 ≤ ltr Tx lm (k + 3) - 48 ∧ ltr Tx lm (k + 3) - 48 ≤ 9) ∧ ¬ ltr Tx lm (k + 2) - 48 + (ltr Tx lm (k + 3) - 48) = 0)) := p_103
        refine r_if_eq C 113 dX12_readsItem_106 rfl (by omega) (fun c_6 => ?_) (fun c_6 => ?_)
        · skip
          refine r_bipush C dX12_readsItem_113 rfl ?_
          exact e_i C (nw, nh, nr, zU (zU Fr 142 (ltr Tx lm (k + 1) - 48)) 143 (10 * (ltr Tx lm (k + 2) - 48) + (ltr Tx lm (k + 3) - 48))) dX12_readsItem_115 (show ((-4) = -4 ∧ itm (ltr Tx lm) k (1, w, h, rw, f, n, X, Y, m, c) = none) ∨ (0 ≤ (-4) ∧ (-4) ≤ 11 ∧ ((ltr Tx lm (k + 1 + (-4)) = 59 ∧ ∃ T9 : PSt, itm (ltr Tx lm) k (1, w, h, rw, f, n, X, Y, m, c) = some ((-4) + 2, T9) ∧ PRL nw nh nr (zU (zU Fr 142 (ltr Tx lm (k + 1) - 48)) 143 (10 * (ltr Tx lm (k + 2) - 48) + (ltr Tx lm (k + 3) - 48))) (k + ((-4) + 2)) T9) ∨ (¬ ltr Tx lm (k + 1 + (-4)) = 59 ∧ itm (ltr Tx lm) k (1, w, h, rw, f, n, X, Y, m, c) = none))) from Or.inl ⟨rfl, by
      rw [itm_eq, if_neg (by decide), if_neg (by omega), if_neg (by omega), if_pos (by omega), pif_f (fun z => by obtain ⟨a1, a2, a3, a4, -⟩ := z; omega)]⟩) rfl
        · skip
          refine r_iconst C dX12_readsItem_109 ?_
          refine r_goto C 115 dX12_readsItem_110 rfl ?_
          exact e_i C (nw, nh, nr, zU (zU Fr 142 (ltr Tx lm (k + 1) - 48)) 143 (10 * (ltr Tx lm (k + 2) - 48) + (ltr Tx lm (k + 3) - 48))) dX12_readsItem_115 (show (3 = -4 ∧ itm (ltr Tx lm) k (1, w, h, rw, f, n, X, Y, m, c) = none) ∨ (0 ≤ 3 ∧ 3 ≤ 11 ∧ ((ltr Tx lm (k + 1 + 3) = 59 ∧ ∃ T9 : PSt, itm (ltr Tx lm) k (1, w, h, rw, f, n, X, Y, m, c) = some (3 + 2, T9) ∧ PRL nw nh nr (zU (zU Fr 142 (ltr Tx lm (k + 1) - 48)) 143 (10 * (ltr Tx lm (k + 2) - 48) + (ltr Tx lm (k + 3) - 48))) (k + (3 + 2)) T9) ∨ (¬ ltr Tx lm (k + 1 + 3) = 59 ∧ itm (ltr Tx lm) k (1, w, h, rw, f, n, X, Y, m, c) = none))) from by
      rcases p_103 with z | ⟨z1, z2⟩
      · right
        refine ⟨by decide, by decide, ?_⟩
        by_cases e : ltr Tx lm (k + 1 + 3) = 59
        · left
          refine ⟨e, (1, w, h, rw, f, n, X, Y, ltr Tx lm (k + 1) - 48, 10 * (ltr Tx lm (k + 2) - 48) + (ltr Tx lm (k + 3) - 48)), ?_, PRL_met (by omega) o7 hpr⟩
          rw [itm_eq, if_neg (by decide), if_neg (by omega), if_neg (by omega), if_pos (by omega), pif_t ⟨by omega, by omega, by omega, by omega, by rw [← e]; congr 1; omega⟩]; rfl
        · right
          exact ⟨e, by rw [itm_eq, if_neg (by decide), if_neg (by omega), if_neg (by omega), if_pos (by omega), pif_f (fun z => e (by rw [show k + 1 + 3 = k + 4 by omega]; exact z.2.2.2.2))]⟩
      · omega) rfl
      by_cases c_7 : (ltr Tx lm k) = 114
      · refine r_look C 68 (v := 114) dX12_readsItem_35 c_7 (by decide) rfl rfl rfl ?_
        refine r_aload_n C dX12_readsItem_68 1 rfl ?_
        refine r_iload_n C dX12_readsItem_69 2 rfl ?_
        refine k_Vi C kv_X12_89 (fun sz => c_X12_readsRow l g hM wi hi mN mC cm ca mL sc qu fp mT lm nw nh nr mF mR mD mA ii wo wd oe mK rm mH cn Tx Fr k (by omega) (by omega) (by omega) (by have := q2 (by omega); omega) (by have := q2 (by omega); omega) (by have := q2 (by omega); omega) sz) dX12_readsItem_70 rfl rfl rfl ⟨rfl, rfl⟩ 0 11 rfl rfl rfl [0, 1, 2] rfl rfl (fun _ => rfl) (ws' := fun u_ => [(hM, oB 11 [vi wi, vi hi, .ref mN, .ref mC, vi cm, vi ca, .ref mL, vi sc, vi qu, vi fp, .ref mT, vi lm, vi nw, vi nh, vi u_.2, .ref mF, .ref mR, .ref mD, .ref mA, vi ii, vi wo, vi wd, vi oe, .ref mK, vi rm, .ref mH, vi cn]), (mT, aI g 200 Tx), (mF, aI g 145 u_.1)]) (fun _ => rfl) (fun r_70 u_ p_70 => ?_)
        obtain ⟨F2_70, nr2_70⟩ := u_
        refine r_at (ws' := [(hM, oB 11 [vi wi, vi hi, .ref mN, .ref mC, vi cm, vi ca, .ref mL, vi sc, vi qu, vi fp, .ref mT, vi lm, vi nw, vi nh, vi nr2_70, .ref mF, .ref mR, .ref mD, .ref mA, vi ii, vi wo, vi wd, vi oe, .ref mK, vi rm, .ref mH, vi cn]), (mT, aI g 200 Tx), (mF, aI g 145 F2_70)]) (lv' := [(2, vi (ltr Tx lm k)), (0, .ref hM), (1, vi k)]) rfl rfl ?_
        have p_70 : (r_70 = 1 ∧ nr < nh ∧ (∀ u : Int, 0 ≤ u → u < nw → ltr Tx lm (k + 1 + u) = 35 ∨ ltr Tx lm (k + 1 + u) = 46) ∧ nr2_70 = nr + 1 ∧ ∀ j : Int, F2_70 j = if 11 * nr ≤ j ∧ j < 11 * nr + nw then isH (ltr Tx lm) k (j - 11 * nr) else Fr j) ∨ (r_70 = 0 ∧ ¬ (nr < nh ∧ (∀ u : Int, 0 ≤ u → u < nw → ltr Tx lm (k + 1 + u) = 35 ∨ ltr Tx lm (k + 1 + u) = 46))) := p_70
        refine r_if_eq C 83 dX12_readsItem_73 rfl (by omega) (fun c_8 => ?_) (fun c_8 => ?_)
        · skip
          refine r_bipush C dX12_readsItem_83 rfl ?_
          exact e_i C (nw, nh, nr2_70, F2_70) dX12_readsItem_85 (show ((-4) = -4 ∧ itm (ltr Tx lm) k (1, w, h, rw, f, n, X, Y, m, c) = none) ∨ (0 ≤ (-4) ∧ (-4) ≤ 11 ∧ ((ltr Tx lm (k + 1 + (-4)) = 59 ∧ ∃ T9 : PSt, itm (ltr Tx lm) k (1, w, h, rw, f, n, X, Y, m, c) = some ((-4) + 2, T9) ∧ PRL nw nh nr2_70 F2_70 (k + ((-4) + 2)) T9) ∨ (¬ ltr Tx lm (k + 1 + (-4)) = 59 ∧ itm (ltr Tx lm) k (1, w, h, rw, f, n, X, Y, m, c) = none))) from Or.inl ⟨rfl, by
      rcases p_70 with ⟨z1, z2, z3, z4, z5⟩ | ⟨z1, z2⟩
      · omega
      · rw [itm_eq, if_neg (by decide), if_pos (by omega), pif_f (fun z => z2 ⟨by have := z.1; omega, fun u a b => z.2.1 u a (by omega)⟩)]⟩) rfl
        · skip
          refine r_aload_n C dX12_readsItem_76 1 rfl ?_
          refine gf_X12_72 C dX12_readsItem_77 0 rfl rfl ?_
          refine r_goto C 85 dX12_readsItem_80 rfl ?_
          exact e_i C (nw, nh, nr2_70, F2_70) dX12_readsItem_85 (show (nw = -4 ∧ itm (ltr Tx lm) k (1, w, h, rw, f, n, X, Y, m, c) = none) ∨ (0 ≤ nw ∧ nw ≤ 11 ∧ ((ltr Tx lm (k + 1 + nw) = 59 ∧ ∃ T9 : PSt, itm (ltr Tx lm) k (1, w, h, rw, f, n, X, Y, m, c) = some (nw + 2, T9) ∧ PRL nw nh nr2_70 F2_70 (k + (nw + 2)) T9) ∨ (¬ ltr Tx lm (k + 1 + nw) = 59 ∧ itm (ltr Tx lm) k (1, w, h, rw, f, n, X, Y, m, c) = none))) from by
      rcases p_70 with ⟨z1, z2, z3, z4, z5⟩ | ⟨z1, z2⟩
      · right
        refine ⟨by omega, by omega, ?_⟩
        by_cases e : ltr Tx lm (k + 1 + nw) = 59
        · left
          refine ⟨e, (1, w, h, rw + 1, zU f rw (rowP (isH (ltr Tx lm) k) 0 w), n, X, Y, m, c), ?_, ?_⟩
          · rw [itm_eq, if_neg (by decide), if_pos (by omega), pif_t ⟨by omega, fun u a b => z3 u a (by omega), by rw [← e2]; exact e⟩, e2]
          · rw [z4, e2, ← Int.add_assoc]; have := PRL_row (by omega) hok (by omega) z5 hpr; rw [e2] at this; exact this
        · right
          exact ⟨e, by rw [itm_eq, if_neg (by decide), if_pos (by omega), pif_f (fun z => e (by rw [e2]; exact z.2.2))]⟩
      · omega) rfl
      refine r_lookOut C 116 dX12_readsItem_35 (by omega) rfl (by simp [c_3, c_5, c_7]) rfl ?_
      refine r_bipush C dX12_readsItem_116 rfl ?_
      exact e_i C (nw, nh, nr, Fr) dX12_readsItem_118 (show ((-4) = -4 ∧ itm (ltr Tx lm) k (1, w, h, rw, f, n, X, Y, m, c) = none) ∨ (0 ≤ (-4) ∧ (-4) ≤ 11 ∧ ((ltr Tx lm (k + 1 + (-4)) = 59 ∧ ∃ T9 : PSt, itm (ltr Tx lm) k (1, w, h, rw, f, n, X, Y, m, c) = some ((-4) + 2, T9) ∧ PRL nw nh nr Fr (k + ((-4) + 2)) T9) ∨ (¬ ltr Tx lm (k + 1 + (-4)) = 59 ∧ itm (ltr Tx lm) k (1, w, h, rw, f, n, X, Y, m, c) = none))) from Or.inl ⟨rfl, by rw [itm_eq, if_neg (by decide), if_neg (by omega), if_neg (by omega), if_neg (by omega)]⟩) rfl
    · skip
      refine r_bipush C dX12_readsItem_31 rfl ?_
      exact e_i C (nw, nh, nr, Fr) dX12_readsItem_33 (show ((-4) = -4 ∧ itm (ltr Tx lm) k (td, w, h, rw, f, n, X, Y, m, c) = none) ∨ (0 ≤ (-4) ∧ (-4) ≤ 11 ∧ ((ltr Tx lm (k + 1 + (-4)) = 59 ∧ ∃ T9 : PSt, itm (ltr Tx lm) k (td, w, h, rw, f, n, X, Y, m, c) = some ((-4) + 2, T9) ∧ PRL nw nh nr Fr (k + ((-4) + 2)) T9) ∨ (¬ ltr Tx lm (k + 1 + (-4)) = 59 ∧ itm (ltr Tx lm) k (td, w, h, rw, f, n, X, Y, m, c) = none))) from Or.inl ⟨rfl, by
      have htd : td = 0 := by
        rcases o1 with z | z
        · exact z
        · have := q2 z; omega
      rw [itm_eq, if_pos htd, if_neg (by omega)]⟩) rfl
  · skip
    refine r_aload_n C dX12_readsItem_12 1 rfl ?_
    refine r_iload_n C dX12_readsItem_13 2 rfl ?_
    refine k_Vi C kv_X12_85 (fun sz => c_X12_readsGrid l g hM wi hi mN mC cm ca mL sc qu fp mT lm nw nh nr mF mR mD mA ii wo wd oe mK rm mH cn Tx k (by omega) (by omega) (by omega) sz) dX12_readsItem_14 rfl rfl rfl ⟨rfl, rfl⟩ 0 11 rfl rfl rfl [0, 1] rfl rfl (fun _ => rfl) (ws' := fun u_ => [(hM, oB 11 [vi wi, vi hi, .ref mN, .ref mC, vi cm, vi ca, .ref mL, vi sc, vi qu, vi fp, .ref mT, vi lm, vi (sgO (ltr Tx lm (k + 1))), vi (sgO (ltr Tx lm (k + 2))), vi nr, .ref mF, .ref mR, .ref mD, .ref mA, vi ii, vi wo, vi wd, vi oe, .ref mK, vi rm, .ref mH, vi cn]), (mT, aI g 200 Tx), (mF, aI g 145 Fr)]) (fun _ => rfl) (fun r_14 u_ p_14 => ?_)
    have p_14 : (r_14 = 1 ∧ k = 0 ∧ (4 ≤ sgO (ltr Tx lm (k + 1)) ∧ sgO (ltr Tx lm (k + 1)) ≤ 11) ∧ (4 ≤ sgO (ltr Tx lm (k + 2)) ∧ sgO (ltr Tx lm (k + 2)) ≤ 11)) ∨ (r_14 = 0 ∧ ¬ (k = 0 ∧ (4 ≤ sgO (ltr Tx lm (k + 1)) ∧ sgO (ltr Tx lm (k + 1)) ≤ 11) ∧ (4 ≤ sgO (ltr Tx lm (k + 2)) ∧ sgO (ltr Tx lm (k + 2)) ≤ 11))) := p_14
    refine r_if_eq C 24 dX12_readsItem_17 rfl (by omega) (fun c_9 => ?_) (fun c_9 => ?_)
    · skip
      refine r_bipush C dX12_readsItem_24 rfl ?_
      exact e_i C (sgO (ltr Tx lm (k + 1)), sgO (ltr Tx lm (k + 2)), nr, Fr) dX12_readsItem_26 (show ((-4) = -4 ∧ itm (ltr Tx lm) k (td, w, h, rw, f, n, X, Y, m, c) = none) ∨ (0 ≤ (-4) ∧ (-4) ≤ 11 ∧ ((ltr Tx lm (k + 1 + (-4)) = 59 ∧ ∃ T9 : PSt, itm (ltr Tx lm) k (td, w, h, rw, f, n, X, Y, m, c) = some ((-4) + 2, T9) ∧ PRL (sgO (ltr Tx lm (k + 1))) (sgO (ltr Tx lm (k + 2))) nr Fr (k + ((-4) + 2)) T9) ∨ (¬ ltr Tx lm (k + 1 + (-4)) = 59 ∧ itm (ltr Tx lm) k (td, w, h, rw, f, n, X, Y, m, c) = none))) from Or.inl ⟨rfl, by
      by_cases e : td = 0
      · subst e
        have g1 := sgO_sdO (ltr Tx lm (k + 1))
        have g2 := sgO_sdO (ltr Tx lm (k + 2))
        rw [itm_eq, if_pos rfl, if_pos (by omega), pif_f (fun z => by have a1 := g1.1.mpr z.1; have a2 := g2.1.mpr z.2.1; have := q1 rfl; omega)]
      · rw [itm_eq, if_neg (by omega), if_neg (by omega), if_neg (by omega), if_neg (by omega)]⟩) rfl
    · skip
      refine r_iconst C dX12_readsItem_20 ?_
      refine r_goto C 26 dX12_readsItem_21 rfl ?_
      exact e_i C (sgO (ltr Tx lm (k + 1)), sgO (ltr Tx lm (k + 2)), nr, Fr) dX12_readsItem_26 (show (2 = -4 ∧ itm (ltr Tx lm) k (td, w, h, rw, f, n, X, Y, m, c) = none) ∨ (0 ≤ 2 ∧ 2 ≤ 11 ∧ ((ltr Tx lm (k + 1 + 2) = 59 ∧ ∃ T9 : PSt, itm (ltr Tx lm) k (td, w, h, rw, f, n, X, Y, m, c) = some (2 + 2, T9) ∧ PRL (sgO (ltr Tx lm (k + 1))) (sgO (ltr Tx lm (k + 2))) nr Fr (k + (2 + 2)) T9) ∨ (¬ ltr Tx lm (k + 1 + 2) = 59 ∧ itm (ltr Tx lm) k (td, w, h, rw, f, n, X, Y, m, c) = none))) from Or.inr ⟨by decide, by decide, by
      have htd : td = 0 := by
        rcases o1 with z | z
        · exact z
        · have := q2 z; omega
      subst htd
      have g1 := sgO_sdO (ltr Tx lm (k + 1))
      have g2 := sgO_sdO (ltr Tx lm (k + 2))
      by_cases e : ltr Tx lm (k + 1 + 2) = 59
      · left
        refine ⟨e, (1, sdO (ltr Tx lm (k + 1)), sdO (ltr Tx lm (k + 2)), rw, f, n, X, Y, m, c), ?_, ?_⟩
        · rw [itm_eq, if_pos rfl, if_pos (by omega), pif_t ⟨g1.1.mp (by omega), g2.1.mp (by omega), by rw [← e]; congr 1; omega⟩]; rfl
        · rw [g1.2 (by omega), g2.2 (by omega)]; exact PRL_grid kk.1 (o12 rfl).1 hpr
      · right
        refine ⟨e, ?_⟩
        rw [itm_eq, if_pos rfl, if_pos (by omega), pif_f (fun z => e (by rw [show k + 1 + 2 = k + 3 by omega]; exact z.2.2))]⟩) rfl
set_option maxHeartbeats 1000000 in
set_option maxRecDepth 100000 in
theorem c_X12_reads (l : Launch) (g : Gx) (hM : Nat) (wi : Int) (hi : Int) (mN : Nat) (mC : Nat) (cm : Int) (ca : Int) (mL : Nat) (sc : Int) (qu : Int) (fp : Int) (mT : Nat) (lm : Int) (nw : Int) (nh : Int) (nr : Int) (mF : Nat) (mR : Nat) (mD : Nat) (mA : Nat) (ii : Int) (wo : Int) (wd : Int) (oe : Int) (mK : Nat) (rm : Int) (mH : Nat) (cn : Int) (Tx : Int → Int) (Fr : Int → Int) (X0 : Int → Int) (Y0 : Int → Int) (kl : 0 ≤ lm ∧ lm ≤ 200) (kT : ∀ k : Int, 0 ≤ k → k < 200 → 0 ≤ Tx k ∧ Tx k ≤ 65535) (hX0 : ∀ d : Int, 0 ≤ d → d < 10 → -5 ≤ X0 d ∧ X0 d ≤ 5) (hY0 : ∀ d : Int, 0 ≤ d → d < 10 → -5 ≤ Y0 d ∧ Y0 d ≤ 5) (sz : Nat) : Met l yX12_reads (.code yX12_reads cX12_reads 3 (some .int) :: wsL_law) { frames := 4, cells := 0, slots := 0, locals := 85 } (PR g [.ref hM] [(hM, oB 11 [vi wi, vi hi, .ref mN, .ref mC, vi cm, vi ca, .ref mL, vi sc, vi qu, vi fp, .ref mT, vi lm, vi nw, vi nh, vi nr, .ref mF, .ref mR, .ref mD, .ref mA, vi ii, vi wo, vi wd, vi oe, .ref mK, vi rm, .ref mH, vi cn]), (mT, aI g 200 Tx), (mF, aI g 145 Fr)] sz) (PI (S := Int × Int × Int × (Int → Int)) g (fun r u_ => ∃ S9 : PSt, (r, S9) = rdA (ltr Tx lm) lm X0 Y0 ∧ (r = -4 → ∃ k9 : Int, lm ≤ k9 ∧ PRL u_.1 u_.2.1 u_.2.2.1 u_.2.2.2 k9 S9)) (fun u_ => [(hM, oB 11 [vi wi, vi hi, .ref mN, .ref mC, vi cm, vi ca, .ref mL, vi sc, vi qu, vi fp, .ref mT, vi lm, vi u_.1, vi u_.2.1, vi u_.2.2.1, .ref mF, .ref mR, .ref mD, .ref mA, vi ii, vi wo, vi wd, vi oe, .ref mK, vi rm, .ref mH, vi cn]), (mT, aI g 200 Tx), (mF, aI g 145 u_.2.2.2)]) [(hM, oB 11 [vi wi, vi hi, .ref mN, .ref mC, vi cm, vi ca, .ref mL, vi sc, vi qu, vi fp, .ref mT, vi lm, vi nw, vi nh, vi nr, .ref mF, .ref mR, .ref mD, .ref mA, vi ii, vi wo, vi wd, vi oe, .ref mK, vi rm, .ref mH, vi cn]), (mT, aI g 200 Tx), (mF, aI g 145 Fr)] sz) 0 0 (va_A [(hM, oB 11 [vi wi, vi hi, .ref mN, .ref mC, vi cm, vi ca, .ref mL, vi sc, vi qu, vi fp, .ref mT, vi lm, vi nw, vi nh, vi nr, .ref mF, .ref mR, .ref mD, .ref mA, vi ii, vi wo, vi wd, vi oe, .ref mK, vi rm, .ref mH, vi cn]), (mT, aI g 200 Tx), (mF, aI g 145 Fr)] sz) := by
  refine meet (own := RX12) rfl (plainFor_of_name (by decide +kernel)) rfl (fun p_ e_ s_ m_ args_ below_ meth_ c_ C hnm => ?_)
  refine r_at (ws' := [(hM, oB 11 [vi wi, vi hi, .ref mN, .ref mC, vi cm, vi ca, .ref mL, vi sc, vi qu, vi fp, .ref mT, vi lm, vi nw, vi nh, vi nr, .ref mF, .ref mR, .ref mD, .ref mA, vi ii, vi wo, vi wd, vi oe, .ref mK, vi rm, .ref mH, vi cn]), (mT, aI g 200 Tx), (mF, aI g 145 Fr)]) (lv' := [(0, .ref hM)]) rfl rfl ?_
  have hlb : ∀ j : Int, 0 ≤ ltr Tx lm j ∧ ltr Tx lm j ≤ 65535 := fun j => by unfold ltr; split; exact kT j (by omega) (by omega); omega
  refine r_iconst C dX12_reads_0 ?_
  refine r_istore_n C (lv' := [(1, vi 0), (0, .ref hM)]) dX12_reads_1 rfl rfl ?_
  refine r_lv (lv' := [(0, .ref hM), (1, vi 0)]) [1, 0] rfl ?_
  refine r_loop (σ := Int × (Int → Int)) (fun z_ => (0 ≤ z_.1 ∧ z_.1 ≤ 145) ∧ (∀ j : Int, 0 ≤ j → j < z_.1 → z_.2 j = 0)) (fun z_ => 145 - z_.1) (fun z_ => [(hM, oB 11 [vi wi, vi hi, .ref mN, .ref mC, vi cm, vi ca, .ref mL, vi sc, vi qu, vi fp, .ref mT, vi lm, vi nw, vi nh, vi nr, .ref mF, .ref mR, .ref mD, .ref mA, vi ii, vi wo, vi wd, vi oe, .ref mK, vi rm, .ref mH, vi cn]), (mT, aI g 200 Tx), (mF, aI g 145 z_.2)]) (fun z_ => [(0, .ref hM), (1, vi z_.1)]) (fun z_ hz => ?_) (fun z_ hz ih_2 => ?_) (((0, Fr) : Int × (Int → Int))) ?_
  · obtain ⟨i, P⟩ := z_
    obtain ⟨ji, jP⟩ := hz
    have ji : 0 ≤ i ∧ i ≤ 145 := ji
    have jP : ∀ j : Int, 0 ≤ j → j < i → P j = 0 := jP
    show (0 : Int) ≤ 145 - i
    omega
  rotate_left
  · show (0 ≤ 0 ∧ 0 ≤ 145) ∧ (∀ j : Int, 0 ≤ j → j < 0 → Fr j = 0)
    exact ⟨(by decide), (fun j a b => by omega)⟩
  obtain ⟨i, P⟩ := z_
  obtain ⟨ji, jP⟩ := hz
  have ji : 0 ≤ i ∧ i ≤ 145 := ji
  have jP : ∀ j : Int, 0 ≤ j → j < i → P j = 0 := jP
  refine r_at (ws' := [(hM, oB 11 [vi wi, vi hi, .ref mN, .ref mC, vi cm, vi ca, .ref mL, vi sc, vi qu, vi fp, .ref mT, vi lm, vi nw, vi nh, vi nr, .ref mF, .ref mR, .ref mD, .ref mA, vi ii, vi wo, vi wd, vi oe, .ref mK, vi rm, .ref mH, vi cn]), (mT, aI g 200 Tx), (mF, aI g 145 P)]) (lv' := [(0, .ref hM), (1, vi i)]) rfl rfl ?_
  refine r_iload_n C dX12_reads_2 1 rfl ?_
  refine r_sipush C dX12_reads_3 rfl ?_
  refine r_icmp_ge C 22 dX12_reads_6 rfl (by omega) (fun c_1 => ?_) (fun c_1 => ?_)
  · skip
    refine r_aload_n C dX12_reads_22 0 rfl ?_
    refine gf_X12_26 C dX12_reads_23 0 rfl rfl ?_
    refine r_sipush C dX12_reads_26 rfl ?_
    refine r_bipush C dX12_reads_29 rfl ?_
    refine r_iast C (ws' := [(hM, oB 11 [vi wi, vi hi, .ref mN, .ref mC, vi cm, vi ca, .ref mL, vi sc, vi qu, vi fp, .ref mT, vi lm, vi nw, vi nh, vi nr, .ref mF, .ref mR, .ref mD, .ref mA, vi ii, vi wo, vi wd, vi oe, .ref mK, vi rm, .ref mH, vi cn]), (mT, aI g 200 Tx), (mF, aI g 145 (zU P 143 99))]) dX12_reads_31 2 rfl rfl (by omega) rfl ?_
    refine r_aload_n C dX12_reads_32 0 rfl ?_
    refine r_iconst C dX12_reads_33 ?_
    refine pf_X12_78 C (ws' := [(hM, oB 11 [vi wi, vi hi, .ref mN, .ref mC, vi cm, vi ca, .ref mL, vi sc, vi qu, vi fp, .ref mT, vi lm, vi nw, vi nh, vi 0, .ref mF, .ref mR, .ref mD, .ref mA, vi ii, vi wo, vi wd, vi oe, .ref mK, vi rm, .ref mH, vi cn]), (mT, aI g 200 Tx), (mF, aI g 145 (zU P 143 99))]) dX12_reads_34 0 rfl (Nat.le_of_ble_eq_true rfl) rfl ?_
    refine r_iconst C dX12_reads_37 ?_
    refine r_istore_n C (lv' := [(1, vi 0), (0, .ref hM)]) dX12_reads_38 rfl rfl ?_
    refine r_lv (lv' := [(0, .ref hM), (1, vi 0)]) [1, 0] rfl ?_
    refine r_loop (σ := Int × Int × Int × Int × (Int → Int)) (fun z_ => (0 ≤ z_.1 ∧ z_.1 ≤ 213) ∧ (∃ (q9 : Nat) (S9 : PSt), PSok S9 ∧ PRL z_.2.1 z_.2.2.1 z_.2.2.2.1 z_.2.2.2.2 z_.1 S9 ∧ rdA (ltr Tx lm) lm X0 Y0 = prs (ltr Tx lm) lm q9 S9 z_.1 ∧ lm - z_.1 ≤ (q9 : Int))) (fun z_ => 213 - z_.1) (fun z_ => [(hM, oB 11 [vi wi, vi hi, .ref mN, .ref mC, vi cm, vi ca, .ref mL, vi sc, vi qu, vi fp, .ref mT, vi lm, vi z_.2.1, vi z_.2.2.1, vi z_.2.2.2.1, .ref mF, .ref mR, .ref mD, .ref mA, vi ii, vi wo, vi wd, vi oe, .ref mK, vi rm, .ref mH, vi cn]), (mT, aI g 200 Tx), (mF, aI g 145 z_.2.2.2.2)]) (fun z_ => [(0, .ref hM), (1, vi z_.1)]) (fun z_ hz => ?_) (fun z_ hz ih_39 => ?_) (((0, nw, nh, 0, zU P 143 99) : Int × Int × Int × Int × (Int → Int))) ?_
    · obtain ⟨k, nw1, nh1, nr1, F1⟩ := z_
      obtain ⟨jk, jS⟩ := hz
      have jk : 0 ≤ k ∧ k ≤ 213 := jk
      have jS : ∃ (q9 : Nat) (S9 : PSt), PSok S9 ∧ PRL nw1 nh1 nr1 F1 k S9 ∧ rdA (ltr Tx lm) lm X0 Y0 = prs (ltr Tx lm) lm q9 S9 k ∧ lm - k ≤ (q9 : Int) := jS
      show (0 : Int) ≤ 213 - k
      omega
    rotate_left
    · show (0 ≤ 0 ∧ 0 ≤ 213) ∧ (∃ (q9 : Nat) (S9 : PSt), PSok S9 ∧ PRL nw nh 0 (zU P 143 99) 0 S9 ∧ rdA (ltr Tx lm) lm X0 Y0 = prs (ltr Tx lm) lm q9 S9 0 ∧ lm - 0 ≤ (q9 : Int))
      exact ⟨(by decide), (⟨200, _, PSok_0 hX0 hY0, PRL_0 (fun j a b e => by rw [zU_ne _ _ e]; exact jP j a (by omega)) (zU_eq _ _ _), rfl, by omega⟩)⟩
    obtain ⟨k, nw1, nh1, nr1, F1⟩ := z_
    obtain ⟨jk, jS⟩ := hz
    have jk : 0 ≤ k ∧ k ≤ 213 := jk
    have jS : ∃ (q9 : Nat) (S9 : PSt), PSok S9 ∧ PRL nw1 nh1 nr1 F1 k S9 ∧ rdA (ltr Tx lm) lm X0 Y0 = prs (ltr Tx lm) lm q9 S9 k ∧ lm - k ≤ (q9 : Int) := jS
    refine r_at (ws' := [(hM, oB 11 [vi wi, vi hi, .ref mN, .ref mC, vi cm, vi ca, .ref mL, vi sc, vi qu, vi fp, .ref mT, vi lm, vi nw1, vi nh1, vi nr1, .ref mF, .ref mR, .ref mD, .ref mA, vi ii, vi wo, vi wd, vi oe, .ref mK, vi rm, .ref mH, vi cn]), (mT, aI g 200 Tx), (mF, aI g 145 F1)]) (lv' := [(0, .ref hM), (1, vi k)]) rfl rfl ?_
    refine r_iload_n C dX12_reads_39 1 rfl ?_
    refine r_aload_n C dX12_reads_40 0 rfl ?_
    refine gf_X12_62 C dX12_reads_41 0 rfl rfl ?_
    refine r_icmp_ge C 84 dX12_reads_44 rfl (by omega) (fun c_2 => ?_) (fun c_2 => ?_)
    · skip
      refine r_bipush C dX12_reads_84 rfl ?_
      exact e_i C (nw1, nh1, nr1, F1) dX12_reads_86 (show ∃ S9 : PSt, ((-4), S9) = rdA (ltr Tx lm) lm X0 Y0 ∧ ((-4) = -4 → ∃ k9 : Int, lm ≤ k9 ∧ PRL nw1 nh1 nr1 F1 k9 S9) from by
      obtain ⟨q9, S9, s1, s2, s3, s4⟩ := jS
      exact ⟨S9, by rw [s3, prs_end _ _ (by omega)], fun _ => ⟨k, by omega, s2⟩⟩) rfl
    · skip
      obtain ⟨q9, S9, s1, s2, s3, s4⟩ := jS
      obtain ⟨q8, hq8⟩ : ∃ q8, q9 = q8 + 1 := ⟨q9 - 1, by omega⟩
      refine r_aload_n C dX12_reads_47 0 rfl ?_
      refine r_iload_n C dX12_reads_48 1 rfl ?_
      refine k_Vi C kv_X12_98 (fun sz => c_X12_readsItem l g hM wi hi mN mC cm ca mL sc qu fp mT lm nw1 nh1 nr1 mF mR mD mA ii wo wd oe mK rm mH cn Tx F1 S9 k (by omega) (by omega) (by omega) s1 s2 sz) dX12_reads_49 rfl rfl rfl ⟨rfl, rfl⟩ 0 11 rfl rfl rfl [0, 1, 2] rfl rfl (fun _ => rfl) (ws' := fun u_ => [(hM, oB 11 [vi wi, vi hi, .ref mN, .ref mC, vi cm, vi ca, .ref mL, vi sc, vi qu, vi fp, .ref mT, vi lm, vi u_.1, vi u_.2.1, vi u_.2.2.1, .ref mF, .ref mR, .ref mD, .ref mA, vi ii, vi wo, vi wd, vi oe, .ref mK, vi rm, .ref mH, vi cn]), (mT, aI g 200 Tx), (mF, aI g 145 u_.2.2.2)]) (fun _ => rfl) (fun r_49 u_ p_49 => ?_)
      obtain ⟨nw2_49, nh2_49, nr2_49, F2_49⟩ := u_
      refine r_at (ws' := [(hM, oB 11 [vi wi, vi hi, .ref mN, .ref mC, vi cm, vi ca, .ref mL, vi sc, vi qu, vi fp, .ref mT, vi lm, vi nw2_49, vi nh2_49, vi nr2_49, .ref mF, .ref mR, .ref mD, .ref mA, vi ii, vi wo, vi wd, vi oe, .ref mK, vi rm, .ref mH, vi cn]), (mT, aI g 200 Tx), (mF, aI g 145 F2_49)]) (lv' := [(0, .ref hM), (1, vi k)]) rfl rfl ?_
      have p_49 : (r_49 = -4 ∧ itm (ltr Tx lm) k S9 = none) ∨ (0 ≤ r_49 ∧ r_49 ≤ 11 ∧ ((ltr Tx lm (k + 1 + r_49) = 59 ∧ ∃ T9 : PSt, itm (ltr Tx lm) k S9 = some (r_49 + 2, T9) ∧ PRL nw2_49 nh2_49 nr2_49 F2_49 (k + (r_49 + 2)) T9) ∨ (¬ ltr Tx lm (k + 1 + r_49) = 59 ∧ itm (ltr Tx lm) k S9 = none))) := p_49
      refine r_istore_n C (lv' := [(2, vi r_49), (0, .ref hM), (1, vi k)]) dX12_reads_52 rfl rfl ?_
      refine r_iload_n C dX12_reads_53 0 rfl ?_
      refine r_bipush C dX12_reads_54 rfl ?_
      refine r_icmp_eq C 73 dX12_reads_56 rfl (by rcases p_49 with z | z <;> omega) (fun c_3 => ?_) (fun c_3 => ?_)
      · skip
        refine r_iload_n C dX12_reads_73 2 rfl ?_
        exact e_i C (nw2_49, nh2_49, nr2_49, F2_49) dX12_reads_74 (show ∃ S9 : PSt, (k, S9) = rdA (ltr Tx lm) lm X0 Y0 ∧ (k = -4 → ∃ k9 : Int, lm ≤ k9 ∧ PRL nw2_49 nh2_49 nr2_49 F2_49 k9 S9) from by
      have hn9 : itm (ltr Tx lm) k S9 = none := by
        rcases p_49 with ⟨z1, z2⟩ | ⟨z1, z2, ⟨z3, S8, z4, z5⟩ | ⟨z3, z4⟩⟩
        · exact z2
        · omega
        · exact z4
      exact ⟨S9, by rw [s3, hq8, prs_no _ (by omega) hn9], fun z => by omega⟩) rfl
      · skip
        refine r_aload_n C dX12_reads_59 1 rfl ?_
        refine r_iload_n C dX12_reads_60 2 rfl ?_
        refine r_iconst C dX12_reads_61 ?_
        refine r_iadd C dX12_reads_62 ?_
        refine r_iload_n C dX12_reads_63 0 rfl ?_
        refine r_iadd C dX12_reads_64 ?_
        refine k_Vi C kv_X12_65 (fun sz => c_X12_letter l g hM wi hi mN mC cm ca mL sc qu fp mT lm nw2_49 nh2_49 nr2_49 mF mR mD mA ii wo wd oe mK rm mH cn Tx ((k + 1) + r_49) (by omega) (by omega) sz) dX12_reads_65 rfl rfl rfl ⟨rfl, rfl⟩ 0 11 rfl rfl rfl [0, 1] rfl rfl (fun _ => rfl) (ws' := fun u_ => [(hM, oB 11 [vi wi, vi hi, .ref mN, .ref mC, vi cm, vi ca, .ref mL, vi sc, vi qu, vi fp, .ref mT, vi lm, vi nw2_49, vi nh2_49, vi nr2_49, .ref mF, .ref mR, .ref mD, .ref mA, vi ii, vi wo, vi wd, vi oe, .ref mK, vi rm, .ref mH, vi cn]), (mT, aI g 200 Tx), (mF, aI g 145 F2_49)]) (fun _ => rfl) (fun r_65 u_ p_65 => ?_)
        have p_65 : r_65 = ltr Tx lm ((k + 1) + r_49) := p_65
        refine r_eq (y := (ltr Tx lm ((k + 1) + r_49))) p_65 ?_
        have lb1 := hlb ((k + 1) + r_49)
        refine r_bipush C dX12_reads_68 rfl ?_
        refine r_icmp_eq C 75 dX12_reads_70 rfl (by omega) (fun c_4 => ?_) (fun c_4 => ?_)
        · skip
          refine r_iload_n C dX12_reads_75 2 rfl ?_
          refine r_iload_n C dX12_reads_76 0 rfl ?_
          refine r_iconst C dX12_reads_77 ?_
          refine r_iadd C dX12_reads_78 ?_
          refine r_iadd C dX12_reads_79 ?_
          refine r_istore_n C (lv' := [(1, vi (k + (r_49 + 2))), (2, vi r_49), (0, .ref hM)]) dX12_reads_80 rfl rfl ?_
          refine r_goto C 39 dX12_reads_81 rfl ?_
          refine r_lv (lv' := [(0, .ref hM), (1, vi (k + (r_49 + 2)))]) [2, 0] rfl ?_
          exact ih_39 (k + (r_49 + 2), nw2_49, nh2_49, nr2_49, F2_49) (show (0 ≤ (k + (r_49 + 2)) ∧ (k + (r_49 + 2)) ≤ 213) ∧ (∃ (q9 : Nat) (S9 : PSt), PSok S9 ∧ PRL nw2_49 nh2_49 nr2_49 F2_49 (k + (r_49 + 2)) S9 ∧ rdA (ltr Tx lm) lm X0 Y0 = prs (ltr Tx lm) lm q9 S9 (k + (r_49 + 2)) ∧ lm - (k + (r_49 + 2)) ≤ (q9 : Int)) from ⟨(by omega), (by
      rcases p_49 with ⟨z1, -⟩ | ⟨z1, z2, ⟨z3, S8, z4, z5⟩ | ⟨z3, -⟩⟩
      · omega
      · exact ⟨q8, S8, (itm_ok s1 z4).1, by rw [show k + (r_49 + 2) = k + (r_49 + 2) from rfl]; exact z5, by rw [s3, hq8, prs_go _ (by omega) z4], by omega⟩
      · omega)⟩) (show 213 - (k + (r_49 + 2)) < 213 - k from by omega)
        · skip
          refine r_iload_n C dX12_reads_73 2 rfl ?_
          exact e_i C (nw2_49, nh2_49, nr2_49, F2_49) dX12_reads_74 (show ∃ S9 : PSt, (k, S9) = rdA (ltr Tx lm) lm X0 Y0 ∧ (k = -4 → ∃ k9 : Int, lm ≤ k9 ∧ PRL nw2_49 nh2_49 nr2_49 F2_49 k9 S9) from by
      have hn9 : itm (ltr Tx lm) k S9 = none := by
        rcases p_49 with ⟨z1, z2⟩ | ⟨z1, z2, ⟨z3, S8, z4, z5⟩ | ⟨z3, z4⟩⟩
        · exact z2
        · omega
        · exact z4
      exact ⟨S9, by rw [s3, hq8, prs_no _ (by omega) hn9], fun z => by omega⟩) rfl
  · skip
    refine r_aload_n C dX12_reads_9 0 rfl ?_
    refine gf_X12_26 C dX12_reads_10 0 rfl rfl ?_
    refine r_iload_n C dX12_reads_13 1 rfl ?_
    refine r_iconst C dX12_reads_14 ?_
    refine r_iast C (ws' := [(hM, oB 11 [vi wi, vi hi, .ref mN, .ref mC, vi cm, vi ca, .ref mL, vi sc, vi qu, vi fp, .ref mT, vi lm, vi nw, vi nh, vi nr, .ref mF, .ref mR, .ref mD, .ref mA, vi ii, vi wo, vi wd, vi oe, .ref mK, vi rm, .ref mH, vi cn]), (mT, aI g 200 Tx), (mF, aI g 145 (zU P i 0))]) dX12_reads_15 2 rfl rfl (by omega) rfl ?_
    refine r_iinc C (lv' := [(1, vi (i + 1)), (0, .ref hM)]) dX12_reads_16 1 rfl rfl rfl ?_
    refine r_goto C 2 dX12_reads_19 rfl ?_
    refine r_lv (lv' := [(0, .ref hM), (1, vi (i + 1))]) [1, 0] rfl ?_
    exact ih_2 (i + 1, zU P i 0) (show (0 ≤ (i + 1) ∧ (i + 1) ≤ 145) ∧ (∀ j : Int, 0 ≤ j → j < (i + 1) → (zU P i 0) j = 0) from ⟨(by omega), (zU_all (G := fun _ => 0) jP rfl)⟩) (show 145 - (i + 1) < 145 - i from by omega)
set_option maxHeartbeats 1000000 in
set_option maxRecDepth 100000 in
theorem c_X12_fault (l : Launch) (g : Gx) (hM : Nat) (wi : Int) (hi : Int) (mN : Nat) (mC : Nat) (cm : Int) (ca : Int) (mL : Nat) (sc : Int) (qu : Int) (fp : Int) (mT : Nat) (lm : Int) (nw : Int) (nh : Int) (nr : Int) (mF : Nat) (mR : Nat) (mD : Nat) (mA : Nat) (ii : Int) (wo : Int) (wd : Int) (oe : Int) (mK : Nat) (rm : Int) (mH : Nat) (cn : Int) (Tx : Int → Int) (Fr : Int → Int) (X0 : Int → Int) (Y0 : Int → Int) (kl : 0 ≤ lm ∧ lm ≤ 200) (kT : ∀ k : Int, 0 ≤ k → k < 200 → 0 ≤ Tx k ∧ Tx k ≤ 65535) (hX0 : ∀ d : Int, 0 ≤ d → d < 10 → -5 ≤ X0 d ∧ X0 d ≤ 5) (hY0 : ∀ d : Int, 0 ≤ d → d < 10 → -5 ≤ Y0 d ∧ Y0 d ≤ 5) (sz : Nat) : Met l yX12_fault (.code yX12_fault cX12_fault 1 (some .int) :: wsL_law) { frames := 5, cells := 0, slots := 0, locals := 107 } (PR g [.ref hM] [(hM, oB 11 [vi wi, vi hi, .ref mN, .ref mC, vi cm, vi ca, .ref mL, vi sc, vi qu, vi fp, .ref mT, vi lm, vi nw, vi nh, vi nr, .ref mF, .ref mR, .ref mD, .ref mA, vi ii, vi wo, vi wd, vi oe, .ref mK, vi rm, .ref mH, vi cn]), (mT, aI g 200 Tx), (mF, aI g 145 Fr)] sz) (PI (S := Int × Int × Int × (Int → Int)) g (fun r u_ => ∃ S9 : PSt, (r, S9) = rdA (ltr Tx lm) lm X0 Y0 ∧ (r = -4 → ∃ k9 : Int, lm ≤ k9 ∧ PRL u_.1 u_.2.1 u_.2.2.1 u_.2.2.2 k9 S9)) (fun u_ => [(hM, oB 11 [vi wi, vi hi, .ref mN, .ref mC, vi cm, vi ca, .ref mL, vi sc, vi qu, vi fp, .ref mT, vi lm, vi u_.1, vi u_.2.1, vi u_.2.2.1, .ref mF, .ref mR, .ref mD, .ref mA, vi ii, vi wo, vi wd, vi oe, .ref mK, vi rm, .ref mH, vi cn]), (mT, aI g 200 Tx), (mF, aI g 145 u_.2.2.2)]) [(hM, oB 11 [vi wi, vi hi, .ref mN, .ref mC, vi cm, vi ca, .ref mL, vi sc, vi qu, vi fp, .ref mT, vi lm, vi nw, vi nh, vi nr, .ref mF, .ref mR, .ref mD, .ref mA, vi ii, vi wo, vi wd, vi oe, .ref mK, vi rm, .ref mH, vi cn]), (mT, aI g 200 Tx), (mF, aI g 145 Fr)] sz) 0 0 (va_A [(hM, oB 11 [vi wi, vi hi, .ref mN, .ref mC, vi cm, vi ca, .ref mL, vi sc, vi qu, vi fp, .ref mT, vi lm, vi nw, vi nh, vi nr, .ref mF, .ref mR, .ref mD, .ref mA, vi ii, vi wo, vi wd, vi oe, .ref mK, vi rm, .ref mH, vi cn]), (mT, aI g 200 Tx), (mF, aI g 145 Fr)] sz) := by
  refine meet (own := RX12) rfl (plainFor_of_name (by decide +kernel)) rfl (fun p_ e_ s_ m_ args_ below_ meth_ c_ C hnm => ?_)
  refine r_at (ws' := [(hM, oB 11 [vi wi, vi hi, .ref mN, .ref mC, vi cm, vi ca, .ref mL, vi sc, vi qu, vi fp, .ref mT, vi lm, vi nw, vi nh, vi nr, .ref mF, .ref mR, .ref mD, .ref mA, vi ii, vi wo, vi wd, vi oe, .ref mK, vi rm, .ref mH, vi cn]), (mT, aI g 200 Tx), (mF, aI g 145 Fr)]) (lv' := [(0, .ref hM)]) rfl rfl ?_
  refine r_aload_n C dX12_fault_0 0 rfl ?_
  refine k_Vi C kv_X12_101 (fun sz => c_X12_reads l g hM wi hi mN mC cm ca mL sc qu fp mT lm nw nh nr mF mR mD mA ii wo wd oe mK rm mH cn Tx Fr X0 Y0 (by omega) (by omega) hX0 hY0 sz) dX12_fault_1 rfl rfl rfl ⟨rfl, rfl⟩ 0 11 rfl rfl rfl [0, 1, 2] rfl rfl (fun _ => rfl) (ws' := fun u_ => [(hM, oB 11 [vi wi, vi hi, .ref mN, .ref mC, vi cm, vi ca, .ref mL, vi sc, vi qu, vi fp, .ref mT, vi lm, vi u_.1, vi u_.2.1, vi u_.2.2.1, .ref mF, .ref mR, .ref mD, .ref mA, vi ii, vi wo, vi wd, vi oe, .ref mK, vi rm, .ref mH, vi cn]), (mT, aI g 200 Tx), (mF, aI g 145 u_.2.2.2)]) (fun _ => rfl) (fun r_1 u_ p_1 => ?_)
  obtain ⟨nw2_1, nh2_1, nr2_1, F2_1⟩ := u_
  refine r_at (ws' := [(hM, oB 11 [vi wi, vi hi, .ref mN, .ref mC, vi cm, vi ca, .ref mL, vi sc, vi qu, vi fp, .ref mT, vi lm, vi nw2_1, vi nh2_1, vi nr2_1, .ref mF, .ref mR, .ref mD, .ref mA, vi ii, vi wo, vi wd, vi oe, .ref mK, vi rm, .ref mH, vi cn]), (mT, aI g 200 Tx), (mF, aI g 145 F2_1)]) (lv' := [(0, .ref hM)]) rfl rfl ?_
  have p_1 : ∃ S9 : PSt, (r_1, S9) = rdA (ltr Tx lm) lm X0 Y0 ∧ (r_1 = -4 → ∃ k9 : Int, lm ≤ k9 ∧ PRL nw2_1 nh2_1 nr2_1 F2_1 k9 S9) := p_1
  exact e_i C (nw2_1, nh2_1, nr2_1, F2_1) dX12_fault_4 (show ∃ S9 : PSt, (r_1, S9) = rdA (ltr Tx lm) lm X0 Y0 ∧ (r_1 = -4 → ∃ k9 : Int, lm ≤ k9 ∧ PRL nw2_1 nh2_1 nr2_1 F2_1 k9 S9) from p_1) rfl
set_option maxHeartbeats 1000000 in
set_option maxRecDepth 100000 in
theorem c_X12_edges (l : Launch) (g : Gx) (hM : Nat) (wi : Int) (hi : Int) (mN : Nat) (mC : Nat) (cm : Int) (ca : Int) (mL : Nat) (sc : Int) (qu : Int) (fp : Int) (mT : Nat) (lm : Int) (nw : Int) (nh : Int) (nr : Int) (mF : Nat) (mR : Nat) (mD : Nat) (mA : Nat) (ii : Int) (wo : Int) (wd : Int) (oe : Int) (mK : Nat) (rm : Int) (mH : Nat) (cn : Int) (N : Int → Int) (sz : Nat) : Met l yX12_edges (.code yX12_edges cX12_edges 3 (some .int) :: wsL_law) { frames := 0, cells := 0, slots := 0, locals := 0 } (PR g [.ref hM] [(hM, oB 11 [vi wi, vi hi, .ref mN, .ref mC, vi cm, vi ca, .ref mL, vi sc, vi qu, vi fp, .ref mT, vi lm, vi nw, vi nh, vi nr, .ref mF, .ref mR, .ref mD, .ref mA, vi ii, vi wo, vi wd, vi oe, .ref mK, vi rm, .ref mH, vi cn]), (mN, aI g 145 N)] sz) (PI (S := Unit) g (fun r u_ => r = sI N 121) (fun u_ => [(hM, oB 11 [vi wi, vi hi, .ref mN, .ref mC, vi cm, vi ca, .ref mL, vi sc, vi qu, vi fp, .ref mT, vi lm, vi nw, vi nh, vi nr, .ref mF, .ref mR, .ref mD, .ref mA, vi ii, vi wo, vi wd, vi oe, .ref mK, vi rm, .ref mH, vi cn]), (mN, aI g 145 N)]) [(hM, oB 11 [vi wi, vi hi, .ref mN, .ref mC, vi cm, vi ca, .ref mL, vi sc, vi qu, vi fp, .ref mT, vi lm, vi nw, vi nh, vi nr, .ref mF, .ref mR, .ref mD, .ref mA, vi ii, vi wo, vi wd, vi oe, .ref mK, vi rm, .ref mH, vi cn]), (mN, aI g 145 N)] sz) 0 0 (va_A [(hM, oB 11 [vi wi, vi hi, .ref mN, .ref mC, vi cm, vi ca, .ref mL, vi sc, vi qu, vi fp, .ref mT, vi lm, vi nw, vi nh, vi nr, .ref mF, .ref mR, .ref mD, .ref mA, vi ii, vi wo, vi wd, vi oe, .ref mK, vi rm, .ref mH, vi cn]), (mN, aI g 145 N)] sz) := by
  refine meet (own := RX12) rfl (plainFor_of_name (by decide +kernel)) rfl (fun p_ e_ s_ m_ args_ below_ meth_ c_ C hnm => ?_)
  refine r_at (ws' := [(hM, oB 11 [vi wi, vi hi, .ref mN, .ref mC, vi cm, vi ca, .ref mL, vi sc, vi qu, vi fp, .ref mT, vi lm, vi nw, vi nh, vi nr, .ref mF, .ref mR, .ref mD, .ref mA, vi ii, vi wo, vi wd, vi oe, .ref mK, vi rm, .ref mH, vi cn]), (mN, aI g 145 N)]) (lv' := [(0, .ref hM)]) rfl rfl ?_
  refine r_iconst C dX12_edges_0 ?_
  refine r_istore_n C (lv' := [(1, vi 0), (0, .ref hM)]) dX12_edges_1 rfl rfl ?_
  refine r_iconst C dX12_edges_2 ?_
  refine r_istore_n C (lv' := [(2, vi 0), (1, vi 0), (0, .ref hM)]) dX12_edges_3 rfl rfl ?_
  refine r_lv (lv' := [(0, .ref hM), (1, vi 0), (2, vi 0)]) [2, 1, 0] rfl ?_
  refine r_loop (σ := Int × Int) (fun z_ => (0 ≤ z_.1 ∧ z_.1 ≤ 121) ∧ (z_.2 = sI N z_.1)) (fun z_ => 121 - z_.1) (fun z_ => [(hM, oB 11 [vi wi, vi hi, .ref mN, .ref mC, vi cm, vi ca, .ref mL, vi sc, vi qu, vi fp, .ref mT, vi lm, vi nw, vi nh, vi nr, .ref mF, .ref mR, .ref mD, .ref mA, vi ii, vi wo, vi wd, vi oe, .ref mK, vi rm, .ref mH, vi cn]), (mN, aI g 145 N)]) (fun z_ => [(0, .ref hM), (1, vi z_.2), (2, vi z_.1)]) (fun z_ hz => ?_) (fun z_ hz ih_4 => ?_) (((0, 0) : Int × Int)) ?_
  · obtain ⟨i, a⟩ := z_
    obtain ⟨ji, ja⟩ := hz
    have ji : 0 ≤ i ∧ i ≤ 121 := ji
    have ja : a = sI N i := ja
    show (0 : Int) ≤ 121 - i
    omega
  rotate_left
  · show (0 ≤ 0 ∧ 0 ≤ 121) ∧ (0 = sI N 0)
    exact ⟨(by decide), (rfl)⟩
  obtain ⟨i, a⟩ := z_
  obtain ⟨ji, ja⟩ := hz
  have ji : 0 ≤ i ∧ i ≤ 121 := ji
  have ja : a = sI N i := ja
  refine r_at (ws' := [(hM, oB 11 [vi wi, vi hi, .ref mN, .ref mC, vi cm, vi ca, .ref mL, vi sc, vi qu, vi fp, .ref mT, vi lm, vi nw, vi nh, vi nr, .ref mF, .ref mR, .ref mD, .ref mA, vi ii, vi wo, vi wd, vi oe, .ref mK, vi rm, .ref mH, vi cn]), (mN, aI g 145 N)]) (lv' := [(0, .ref hM), (1, vi a), (2, vi i)]) rfl rfl ?_
  refine r_iload_n C dX12_edges_4 2 rfl ?_
  refine r_bipush C dX12_edges_5 rfl ?_
  refine r_icmp_ge C 25 dX12_edges_7 rfl (by omega) (fun c_1 => ?_) (fun c_1 => ?_)
  · skip
    refine r_iload_n C dX12_edges_25 1 rfl ?_
    exact e_i C () dX12_edges_26 (show a = sI N 121 from by rw [ja, show i = 121 by omega]) rfl
  · skip
    refine r_iload_n C dX12_edges_10 1 rfl ?_
    refine r_aload_n C dX12_edges_11 0 rfl ?_
    refine gf_X12_7 C dX12_edges_12 0 rfl rfl ?_
    refine r_iload_n C dX12_edges_15 2 rfl ?_
    refine r_iald C dX12_edges_16 1 rfl rfl (by omega) ?_
    refine r_iadd C dX12_edges_17 ?_
    refine r_istore_n C (lv' := [(1, vi (a + (N i))), (0, .ref hM), (2, vi i)]) dX12_edges_18 rfl rfl ?_
    refine r_iinc C (lv' := [(2, vi (i + 1)), (1, vi (a + (N i))), (0, .ref hM)]) dX12_edges_19 2 rfl rfl rfl ?_
    refine r_goto C 4 dX12_edges_22 rfl ?_
    refine r_lv (lv' := [(0, .ref hM), (1, vi (a + (N i))), (2, vi (i + 1))]) [2, 1, 0] rfl ?_
    exact ih_4 (i + 1, a + (N i)) (show (0 ≤ (i + 1) ∧ (i + 1) ≤ 121) ∧ ((a + (N i)) = sI N (i + 1)) from ⟨(by omega), (by rw [sI_s _ ji.1, ja])⟩) (show 121 - (i + 1) < 121 - i from by omega)
set_option maxHeartbeats 1000000 in
set_option maxRecDepth 100000 in
theorem c_X12_lay (l : Launch) (g : Gx) (hM : Nat) (wi : Int) (hi : Int) (mN : Nat) (mC : Nat) (cm : Int) (ca : Int) (mL : Nat) (sc : Int) (qu : Int) (fp : Int) (mT : Nat) (lm : Int) (nw : Int) (nh : Int) (nr : Int) (mF : Nat) (mR : Nat) (mD : Nat) (mA : Nat) (ii : Int) (wo : Int) (wd : Int) (oe : Int) (mK : Nat) (rm : Int) (mH : Nat) (cn : Int) (N : Int → Int) (Tx : Int → Int) (Fr : Int → Int) (X0 : Int → Int) (Y0 : Int → Int) (kl : 0 ≤ lm ∧ lm ≤ 200) (kT : ∀ k : Int, 0 ≤ k → k < 200 → 0 ≤ Tx k ∧ Tx k ≤ 65535) (hX0 : ∀ d : Int, 0 ≤ d → d < 10 → -5 ≤ X0 d ∧ X0 d ≤ 5) (hY0 : ∀ d : Int, 0 ≤ d → d < 10 → -5 ≤ Y0 d ∧ Y0 d ≤ 5) (sz : Nat) : Met l yX12_lay (.code yX12_lay cX12_lay 2 (some .int) :: wsL_law) { frames := 5, cells := 0, slots := 0, locals := 107 } (PR g [.ref hM] [(hM, oB 11 [vi wi, vi hi, .ref mN, .ref mC, vi cm, vi ca, .ref mL, vi sc, vi qu, vi fp, .ref mT, vi lm, vi nw, vi nh, vi nr, .ref mF, .ref mR, .ref mD, .ref mA, vi ii, vi wo, vi wd, vi oe, .ref mK, vi rm, .ref mH, vi cn]), (mN, aI g 145 N), (mT, aI g 200 Tx), (mF, aI g 145 Fr)] sz) (PI (S := Int × Int × Int × (Int → Int) × Int × Int × (Int → Int) × Int × Int × Int × Int) g (fun r u_ => ∃ (q9 td2 w2 h2 rw2 : Int) (f2 : Int → Int) (n2 : Int) (X2 Y2 : Int → Int) (m2 c2 : Int), (q9, (td2, w2, h2, rw2, f2, n2, X2, Y2, m2, c2)) = rdA (ltr Tx lm) lm X0 Y0 ∧ ((q9 = -4 ∧ td2 = 1 ∧ ¬ n2 = 0 ∧ u_.2.2.2.2.1 = w2 ∧ u_.2.2.2.2.2.1 = h2 ∧ (∃ k9 : Int, PRL u_.2.2.2.2.1 u_.2.2.2.2.2.1 u_.2.2.1 u_.2.2.2.2.2.2.1 k9 (td2, w2, h2, rw2, f2, n2, X2, Y2, m2, c2)) ∧ u_.2.2.2.2.2.2.2.1 = 0 ∧ u_.2.2.2.2.2.2.2.2.1 = 2 ∧ u_.2.2.2.2.2.2.2.2.2.1 = 0 ∧ u_.2.2.2.2.2.2.2.2.2.2 = 0 ∧ r = sI u_.2.2.2.2.2.2.1 121) ∨ (¬ (q9 = -4 ∧ td2 = 1 ∧ ¬ n2 = 0) ∧ r = -2 ∧ u_.2.2.2.2.1 = wi ∧ u_.2.2.2.2.2.1 = hi ∧ u_.2.2.2.2.2.2.1 = N ∧ u_.2.2.2.2.2.2.2.1 = cm ∧ u_.2.2.2.2.2.2.2.2.1 = sc ∧ u_.2.2.2.2.2.2.2.2.2.1 = qu ∧ u_.2.2.2.2.2.2.2.2.2.2 = fp))) (fun u_ => [(hM, oB 11 [vi u_.2.2.2.2.1, vi u_.2.2.2.2.2.1, .ref mN, .ref mC, vi u_.2.2.2.2.2.2.2.1, vi ca, .ref mL, vi u_.2.2.2.2.2.2.2.2.1, vi u_.2.2.2.2.2.2.2.2.2.1, vi u_.2.2.2.2.2.2.2.2.2.2, .ref mT, vi lm, vi u_.1, vi u_.2.1, vi u_.2.2.1, .ref mF, .ref mR, .ref mD, .ref mA, vi ii, vi wo, vi wd, vi oe, .ref mK, vi rm, .ref mH, vi cn]), (mN, aI g 145 u_.2.2.2.2.2.2.1), (mT, aI g 200 Tx), (mF, aI g 145 u_.2.2.2.1)]) [(hM, oB 11 [vi wi, vi hi, .ref mN, .ref mC, vi cm, vi ca, .ref mL, vi sc, vi qu, vi fp, .ref mT, vi lm, vi nw, vi nh, vi nr, .ref mF, .ref mR, .ref mD, .ref mA, vi ii, vi wo, vi wd, vi oe, .ref mK, vi rm, .ref mH, vi cn]), (mN, aI g 145 N), (mT, aI g 200 Tx), (mF, aI g 145 Fr)] sz) 0 0 (va_A [(hM, oB 11 [vi wi, vi hi, .ref mN, .ref mC, vi cm, vi ca, .ref mL, vi sc, vi qu, vi fp, .ref mT, vi lm, vi nw, vi nh, vi nr, .ref mF, .ref mR, .ref mD, .ref mA, vi ii, vi wo, vi wd, vi oe, .ref mK, vi rm, .ref mH, vi cn]), (mN, aI g 145 N), (mT, aI g 200 Tx), (mF, aI g 145 Fr)] sz) := by
  refine meet (own := RX12) rfl (plainFor_of_name (by decide +kernel)) rfl (fun p_ e_ s_ m_ args_ below_ meth_ c_ C hnm => ?_)
  refine r_at (ws' := [(hM, oB 11 [vi wi, vi hi, .ref mN, .ref mC, vi cm, vi ca, .ref mL, vi sc, vi qu, vi fp, .ref mT, vi lm, vi nw, vi nh, vi nr, .ref mF, .ref mR, .ref mD, .ref mA, vi ii, vi wo, vi wd, vi oe, .ref mK, vi rm, .ref mH, vi cn]), (mN, aI g 145 N), (mT, aI g 200 Tx), (mF, aI g 145 Fr)]) (lv' := [(0, .ref hM)]) rfl rfl ?_
  refine r_aload_n C dX12_lay_0 0 rfl ?_
  refine k_Vi C kv_X12_101 (fun sz => c_X12_reads l g hM wi hi mN mC cm ca mL sc qu fp mT lm nw nh nr mF mR mD mA ii wo wd oe mK rm mH cn Tx Fr X0 Y0 (by omega) (by omega) hX0 hY0 sz) dX12_lay_1 rfl rfl rfl ⟨rfl, rfl⟩ 0 11 rfl rfl rfl [0, 2, 3] rfl rfl (fun _ => rfl) (ws' := fun u_ => [(hM, oB 11 [vi wi, vi hi, .ref mN, .ref mC, vi cm, vi ca, .ref mL, vi sc, vi qu, vi fp, .ref mT, vi lm, vi u_.1, vi u_.2.1, vi u_.2.2.1, .ref mF, .ref mR, .ref mD, .ref mA, vi ii, vi wo, vi wd, vi oe, .ref mK, vi rm, .ref mH, vi cn]), (mN, aI g 145 N), (mT, aI g 200 Tx), (mF, aI g 145 u_.2.2.2)]) (fun _ => rfl) (fun r_1 u_ p_1 => ?_)
  obtain ⟨nw2_1, nh2_1, nr2_1, F2_1⟩ := u_
  refine r_at (ws' := [(hM, oB 11 [vi wi, vi hi, .ref mN, .ref mC, vi cm, vi ca, .ref mL, vi sc, vi qu, vi fp, .ref mT, vi lm, vi nw2_1, vi nh2_1, vi nr2_1, .ref mF, .ref mR, .ref mD, .ref mA, vi ii, vi wo, vi wd, vi oe, .ref mK, vi rm, .ref mH, vi cn]), (mN, aI g 145 N), (mT, aI g 200 Tx), (mF, aI g 145 F2_1)]) (lv' := [(0, .ref hM)]) rfl rfl ?_
  have p_1 : ∃ S9 : PSt, (r_1, S9) = rdA (ltr Tx lm) lm X0 Y0 ∧ (r_1 = -4 → ∃ k9 : Int, lm ≤ k9 ∧ PRL nw2_1 nh2_1 nr2_1 F2_1 k9 S9) := p_1
  obtain ⟨⟨td, w, h, rw, f, n, X, Y, m, c⟩, hrd, hpr⟩ := p_1
  have ok : PSok (td, w, h, rw, f, n, X, Y, m, c) := by
    have h9 : PSok (rdA (ltr Tx lm) lm X0 Y0).2 := prs_ok (lt := ltr Tx lm) (len := lm) 200 _ 0 (PSok_0 hX0 hY0)
    rw [← hrd] at h9
    exact h9
  have hq8 : -4 ≤ r_1 ∧ r_1 ≤ 200 := by have := rdA_b (lt := ltr Tx lm) hX0 hY0 kl; rw [← hrd] at this; exact this
  obtain ⟨o1, o2, o3, o4, o5, o6, o7, o8, o9, o10, o11, o12⟩ := id ok
  refine r_bipush C dX12_lay_4 rfl ?_
  refine r_icmp_ne C 27 dX12_lay_6 rfl (by omega) (fun c_1 => ?_) (fun c_1 => ?_)
  · skip
    refine r_bipush C dX12_lay_27 rfl ?_
    exact e_i C (nw2_1, nh2_1, nr2_1, F2_1, wi, hi, N, cm, sc, qu, fp) dX12_lay_29 (show ∃ (q9 td2 w2 h2 rw2 : Int) (f2 : Int → Int) (n2 : Int) (X2 Y2 : Int → Int) (m2 c2 : Int), (q9, (td2, w2, h2, rw2, f2, n2, X2, Y2, m2, c2)) = rdA (ltr Tx lm) lm X0 Y0 ∧ ((q9 = -4 ∧ td2 = 1 ∧ ¬ n2 = 0 ∧ wi = w2 ∧ hi = h2 ∧ (∃ k9 : Int, PRL wi hi nr2_1 N k9 (td2, w2, h2, rw2, f2, n2, X2, Y2, m2, c2)) ∧ cm = 0 ∧ sc = 2 ∧ qu = 0 ∧ fp = 0 ∧ (-2) = sI N 121) ∨ (¬ (q9 = -4 ∧ td2 = 1 ∧ ¬ n2 = 0) ∧ (-2) = -2 ∧ wi = wi ∧ hi = hi ∧ N = N ∧ cm = cm ∧ sc = sc ∧ qu = qu ∧ fp = fp)) from ⟨r_1, td, w, h, rw, f, n, X, Y, m, c, hrd, Or.inr ⟨by first | omega | (intro z; have hl0 : lm = 0 := (by omega); have hz := hrd.trans (prs_end (lt := ltr Tx lm) (len := lm) 200 _ (by omega : lm ≤ 0)); have := congrArg (fun y => y.2.1) hz; have h9 : td = 0 := this; omega), rfl, rfl, rfl, rfl, rfl, rfl, rfl, rfl⟩⟩) rfl
  · skip
    obtain ⟨k9, hk9, hp9⟩ := hpr (by omega)
    clear hpr
    obtain ⟨q1, q2, q3, q4, q5, q6, q7, q8, q9, q10⟩ := id hp9
    refine r_aload_n C dX12_lay_9 0 rfl ?_
    refine gf_X12_62 C dX12_lay_10 0 rfl rfl ?_
    refine r_if_eq C 27 dX12_lay_13 rfl (by omega) (fun c_2 => ?_) (fun c_2 => ?_)
    · skip
      refine r_bipush C dX12_lay_27 rfl ?_
      exact e_i C (nw2_1, nh2_1, nr2_1, F2_1, wi, hi, N, cm, sc, qu, fp) dX12_lay_29 (show ∃ (q9 td2 w2 h2 rw2 : Int) (f2 : Int → Int) (n2 : Int) (X2 Y2 : Int → Int) (m2 c2 : Int), (q9, (td2, w2, h2, rw2, f2, n2, X2, Y2, m2, c2)) = rdA (ltr Tx lm) lm X0 Y0 ∧ ((q9 = -4 ∧ td2 = 1 ∧ ¬ n2 = 0 ∧ wi = w2 ∧ hi = h2 ∧ (∃ k9 : Int, PRL wi hi nr2_1 N k9 (td2, w2, h2, rw2, f2, n2, X2, Y2, m2, c2)) ∧ cm = 0 ∧ sc = 2 ∧ qu = 0 ∧ fp = 0 ∧ (-2) = sI N 121) ∨ (¬ (q9 = -4 ∧ td2 = 1 ∧ ¬ n2 = 0) ∧ (-2) = -2 ∧ wi = wi ∧ hi = hi ∧ N = N ∧ cm = cm ∧ sc = sc ∧ qu = qu ∧ fp = fp)) from ⟨r_1, td, w, h, rw, f, n, X, Y, m, c, hrd, Or.inr ⟨by first | omega | (intro z; have hl0 : lm = 0 := (by omega); have hz := hrd.trans (prs_end (lt := ltr Tx lm) (len := lm) 200 _ (by omega : lm ≤ 0)); have := congrArg (fun y => y.2.1) hz; have h9 : td = 0 := this; omega), rfl, rfl, rfl, rfl, rfl, rfl, rfl, rfl⟩⟩) rfl
    · skip
      refine r_aload_n C dX12_lay_16 0 rfl ?_
      refine gf_X12_26 C dX12_lay_17 0 rfl rfl ?_
      refine r_sipush C dX12_lay_20 rfl ?_
      refine r_iald C dX12_lay_23 3 rfl rfl (by omega) ?_
      refine r_if_ne C 30 dX12_lay_24 rfl (by omega) (fun c_3 => ?_) (fun c_3 => ?_)
      · skip
        have htd : td = 1 := by
          rcases o1 with z | z
          · have := q1 z; omega
          · exact z
        subst htd
        obtain ⟨e1, e2, e3, e4⟩ := q2 rfl
        refine r_aload_n C dX12_lay_30 0 rfl ?_
        refine r_aload_n C dX12_lay_31 0 rfl ?_
        refine gf_X12_72 C dX12_lay_32 0 rfl rfl ?_
        refine pf_X12_44 C (ws' := [(hM, oB 11 [vi nw2_1, vi hi, .ref mN, .ref mC, vi cm, vi ca, .ref mL, vi sc, vi qu, vi fp, .ref mT, vi lm, vi nw2_1, vi nh2_1, vi nr2_1, .ref mF, .ref mR, .ref mD, .ref mA, vi ii, vi wo, vi wd, vi oe, .ref mK, vi rm, .ref mH, vi cn]), (mN, aI g 145 N), (mT, aI g 200 Tx), (mF, aI g 145 F2_1)]) dX12_lay_35 0 rfl (Nat.le_of_ble_eq_true rfl) rfl ?_
        refine r_aload_n C dX12_lay_38 0 rfl ?_
        refine r_aload_n C dX12_lay_39 0 rfl ?_
        refine gf_X12_75 C dX12_lay_40 0 rfl rfl ?_
        refine pf_X12_47 C (ws' := [(hM, oB 11 [vi nw2_1, vi nh2_1, .ref mN, .ref mC, vi cm, vi ca, .ref mL, vi sc, vi qu, vi fp, .ref mT, vi lm, vi nw2_1, vi nh2_1, vi nr2_1, .ref mF, .ref mR, .ref mD, .ref mA, vi ii, vi wo, vi wd, vi oe, .ref mK, vi rm, .ref mH, vi cn]), (mN, aI g 145 N), (mT, aI g 200 Tx), (mF, aI g 145 F2_1)]) dX12_lay_43 0 rfl (Nat.le_of_ble_eq_true rfl) rfl ?_
        refine r_iconst C dX12_lay_46 ?_
        refine r_istore_n C (lv' := [(1, vi 0), (0, .ref hM)]) dX12_lay_47 rfl rfl ?_
        refine r_lv (lv' := [(0, .ref hM), (1, vi 0)]) [1, 0] rfl ?_
        refine r_loop (σ := Int × (Int → Int)) (fun z_ => (0 ≤ z_.1 ∧ z_.1 ≤ 145) ∧ (z_.2 = cpI F2_1 N z_.1)) (fun z_ => 145 - z_.1) (fun z_ => [(hM, oB 11 [vi nw2_1, vi nh2_1, .ref mN, .ref mC, vi cm, vi ca, .ref mL, vi sc, vi qu, vi fp, .ref mT, vi lm, vi nw2_1, vi nh2_1, vi nr2_1, .ref mF, .ref mR, .ref mD, .ref mA, vi ii, vi wo, vi wd, vi oe, .ref mK, vi rm, .ref mH, vi cn]), (mN, aI g 145 z_.2), (mT, aI g 200 Tx), (mF, aI g 145 F2_1)]) (fun z_ => [(0, .ref hM), (1, vi z_.1)]) (fun z_ hz => ?_) (fun z_ hz ih_48 => ?_) (((0, N) : Int × (Int → Int))) ?_
        · obtain ⟨i, P⟩ := z_
          obtain ⟨ji, jP⟩ := hz
          have ji : 0 ≤ i ∧ i ≤ 145 := ji
          have jP : P = cpI F2_1 N i := jP
          show (0 : Int) ≤ 145 - i
          omega
        rotate_left
        · show (0 ≤ 0 ∧ 0 ≤ 145) ∧ (N = cpI F2_1 N 0)
          exact ⟨(by decide), ((cpI_0 _ _).symm)⟩
        obtain ⟨i, P⟩ := z_
        obtain ⟨ji, jP⟩ := hz
        have ji : 0 ≤ i ∧ i ≤ 145 := ji
        have jP : P = cpI F2_1 N i := jP
        refine r_at (ws' := [(hM, oB 11 [vi nw2_1, vi nh2_1, .ref mN, .ref mC, vi cm, vi ca, .ref mL, vi sc, vi qu, vi fp, .ref mT, vi lm, vi nw2_1, vi nh2_1, vi nr2_1, .ref mF, .ref mR, .ref mD, .ref mA, vi ii, vi wo, vi wd, vi oe, .ref mK, vi rm, .ref mH, vi cn]), (mN, aI g 145 P), (mT, aI g 200 Tx), (mF, aI g 145 F2_1)]) (lv' := [(0, .ref hM), (1, vi i)]) rfl rfl ?_
        refine r_iload_n C dX12_lay_48 1 rfl ?_
        refine r_sipush C dX12_lay_49 rfl ?_
        refine r_icmp_ge C 73 dX12_lay_52 rfl (by omega) (fun c_4 => ?_) (fun c_4 => ?_)
        · skip
          have hi145 : i = 145 := by omega
          refine r_ext C (f' := F2_1) (ws' := [(hM, oB 11 [vi nw2_1, vi nh2_1, .ref mN, .ref mC, vi cm, vi ca, .ref mL, vi sc, vi qu, vi fp, .ref mT, vi lm, vi nw2_1, vi nh2_1, vi nr2_1, .ref mF, .ref mR, .ref mD, .ref mA, vi ii, vi wo, vi wd, vi oe, .ref mK, vi rm, .ref mH, vi cn]), (mN, aI g 145 F2_1), (mT, aI g 200 Tx), (mF, aI g 145 F2_1)]) 1 rfl (fun k h0 h1 => by rw [jP, hi145]; exact cpI_in _ _ h0 h1) rfl ?_
          refine r_aload_n C dX12_lay_73 0 rfl ?_
          refine r_iconst C dX12_lay_74 ?_
          refine pf_X12_105 C (ws' := [(hM, oB 11 [vi nw2_1, vi nh2_1, .ref mN, .ref mC, vi 0, vi ca, .ref mL, vi sc, vi qu, vi fp, .ref mT, vi lm, vi nw2_1, vi nh2_1, vi nr2_1, .ref mF, .ref mR, .ref mD, .ref mA, vi ii, vi wo, vi wd, vi oe, .ref mK, vi rm, .ref mH, vi cn]), (mN, aI g 145 F2_1), (mT, aI g 200 Tx), (mF, aI g 145 F2_1)]) dX12_lay_75 0 rfl (Nat.le_of_ble_eq_true rfl) rfl ?_
          refine r_aload_n C dX12_lay_78 0 rfl ?_
          refine r_iconst C dX12_lay_79 ?_
          refine pf_X12_19 C (ws' := [(hM, oB 11 [vi nw2_1, vi nh2_1, .ref mN, .ref mC, vi 0, vi ca, .ref mL, vi 2, vi qu, vi fp, .ref mT, vi lm, vi nw2_1, vi nh2_1, vi nr2_1, .ref mF, .ref mR, .ref mD, .ref mA, vi ii, vi wo, vi wd, vi oe, .ref mK, vi rm, .ref mH, vi cn]), (mN, aI g 145 F2_1), (mT, aI g 200 Tx), (mF, aI g 145 F2_1)]) dX12_lay_80 0 rfl (Nat.le_of_ble_eq_true rfl) rfl ?_
          refine r_aload_n C dX12_lay_83 0 rfl ?_
          refine r_iconst C dX12_lay_84 ?_
          refine pf_X12_108 C (ws' := [(hM, oB 11 [vi nw2_1, vi nh2_1, .ref mN, .ref mC, vi 0, vi ca, .ref mL, vi 2, vi 0, vi fp, .ref mT, vi lm, vi nw2_1, vi nh2_1, vi nr2_1, .ref mF, .ref mR, .ref mD, .ref mA, vi ii, vi wo, vi wd, vi oe, .ref mK, vi rm, .ref mH, vi cn]), (mN, aI g 145 F2_1), (mT, aI g 200 Tx), (mF, aI g 145 F2_1)]) dX12_lay_85 0 rfl (Nat.le_of_ble_eq_true rfl) rfl ?_
          refine r_aload_n C dX12_lay_88 0 rfl ?_
          refine r_iconst C dX12_lay_89 ?_
          refine pf_X12_111 C (ws' := [(hM, oB 11 [vi nw2_1, vi nh2_1, .ref mN, .ref mC, vi 0, vi ca, .ref mL, vi 2, vi 0, vi 0, .ref mT, vi lm, vi nw2_1, vi nh2_1, vi nr2_1, .ref mF, .ref mR, .ref mD, .ref mA, vi ii, vi wo, vi wd, vi oe, .ref mK, vi rm, .ref mH, vi cn]), (mN, aI g 145 F2_1), (mT, aI g 200 Tx), (mF, aI g 145 F2_1)]) dX12_lay_90 0 rfl (Nat.le_of_ble_eq_true rfl) rfl ?_
          refine r_aload_n C dX12_lay_93 0 rfl ?_
          refine k_Vi C kv_X12_114 (fun sz => c_X12_edges l g hM nw2_1 nh2_1 mN mC 0 ca mL 2 0 0 mT lm nw2_1 nh2_1 nr2_1 mF mR mD mA ii wo wd oe mK rm mH cn F2_1 sz) dX12_lay_94 rfl rfl rfl ⟨rfl, rfl⟩ 0 11 rfl rfl rfl [0, 1] rfl rfl (fun _ => rfl) (ws' := fun u_ => [(hM, oB 11 [vi nw2_1, vi nh2_1, .ref mN, .ref mC, vi 0, vi ca, .ref mL, vi 2, vi 0, vi 0, .ref mT, vi lm, vi nw2_1, vi nh2_1, vi nr2_1, .ref mF, .ref mR, .ref mD, .ref mA, vi ii, vi wo, vi wd, vi oe, .ref mK, vi rm, .ref mH, vi cn]), (mN, aI g 145 F2_1), (mT, aI g 200 Tx), (mF, aI g 145 F2_1)]) (fun _ => rfl) (fun r_94 u_ p_94 => ?_)
          have p_94 : r_94 = sI F2_1 121 := p_94
          exact e_i C (nw2_1, nh2_1, nr2_1, F2_1, nw2_1, nh2_1, F2_1, 0, 2, 0, 0) dX12_lay_97 (show ∃ (q9 td2 w2 h2 rw2 : Int) (f2 : Int → Int) (n2 : Int) (X2 Y2 : Int → Int) (m2 c2 : Int), (q9, (td2, w2, h2, rw2, f2, n2, X2, Y2, m2, c2)) = rdA (ltr Tx lm) lm X0 Y0 ∧ ((q9 = -4 ∧ td2 = 1 ∧ ¬ n2 = 0 ∧ nw2_1 = w2 ∧ nh2_1 = h2 ∧ (∃ k9 : Int, PRL nw2_1 nh2_1 nr2_1 F2_1 k9 (td2, w2, h2, rw2, f2, n2, X2, Y2, m2, c2)) ∧ 0 = 0 ∧ 2 = 2 ∧ 0 = 0 ∧ 0 = 0 ∧ r_94 = sI F2_1 121) ∨ (¬ (q9 = -4 ∧ td2 = 1 ∧ ¬ n2 = 0) ∧ r_94 = -2 ∧ nw2_1 = wi ∧ nh2_1 = hi ∧ F2_1 = N ∧ 0 = cm ∧ 2 = sc ∧ 0 = qu ∧ 0 = fp)) from ⟨r_1, 1, w, h, rw, f, n, X, Y, m, c, hrd, Or.inl ⟨by omega, rfl, by omega, e2, e3, ⟨k9, hp9⟩, rfl, rfl, rfl, rfl, p_94⟩⟩) rfl
        · skip
          refine r_aload_n C dX12_lay_55 0 rfl ?_
          refine gf_X12_7 C dX12_lay_56 0 rfl rfl ?_
          refine r_iload_n C dX12_lay_59 1 rfl ?_
          refine r_aload_n C dX12_lay_60 0 rfl ?_
          refine gf_X12_26 C dX12_lay_61 0 rfl rfl ?_
          refine r_iload_n C dX12_lay_64 1 rfl ?_
          refine r_iald C dX12_lay_65 3 rfl rfl (by omega) ?_
          refine r_iast C (ws' := [(hM, oB 11 [vi nw2_1, vi nh2_1, .ref mN, .ref mC, vi cm, vi ca, .ref mL, vi sc, vi qu, vi fp, .ref mT, vi lm, vi nw2_1, vi nh2_1, vi nr2_1, .ref mF, .ref mR, .ref mD, .ref mA, vi ii, vi wo, vi wd, vi oe, .ref mK, vi rm, .ref mH, vi cn]), (mN, aI g 145 (zU P i (F2_1 i))), (mT, aI g 200 Tx), (mF, aI g 145 F2_1)]) dX12_lay_66 1 rfl rfl (by omega) rfl ?_
          refine r_iinc C (lv' := [(1, vi (i + 1)), (0, .ref hM)]) dX12_lay_67 1 rfl rfl rfl ?_
          refine r_goto C 48 dX12_lay_70 rfl ?_
          refine r_lv (lv' := [(0, .ref hM), (1, vi (i + 1))]) [1, 0] rfl ?_
          exact ih_48 (i + 1, zU P i (F2_1 i)) (show (0 ≤ (i + 1) ∧ (i + 1) ≤ 145) ∧ ((zU P i (F2_1 i)) = cpI F2_1 N (i + 1)) from ⟨(by omega), (by rw [jP]; exact cpI_s F2_1 _ ji.1)⟩) (show 145 - (i + 1) < 145 - i from by omega)
      · skip
        refine r_bipush C dX12_lay_27 rfl ?_
        exact e_i C (nw2_1, nh2_1, nr2_1, F2_1, wi, hi, N, cm, sc, qu, fp) dX12_lay_29 (show ∃ (q9 td2 w2 h2 rw2 : Int) (f2 : Int → Int) (n2 : Int) (X2 Y2 : Int → Int) (m2 c2 : Int), (q9, (td2, w2, h2, rw2, f2, n2, X2, Y2, m2, c2)) = rdA (ltr Tx lm) lm X0 Y0 ∧ ((q9 = -4 ∧ td2 = 1 ∧ ¬ n2 = 0 ∧ wi = w2 ∧ hi = h2 ∧ (∃ k9 : Int, PRL wi hi nr2_1 N k9 (td2, w2, h2, rw2, f2, n2, X2, Y2, m2, c2)) ∧ cm = 0 ∧ sc = 2 ∧ qu = 0 ∧ fp = 0 ∧ (-2) = sI N 121) ∨ (¬ (q9 = -4 ∧ td2 = 1 ∧ ¬ n2 = 0) ∧ (-2) = -2 ∧ wi = wi ∧ hi = hi ∧ N = N ∧ cm = cm ∧ sc = sc ∧ qu = qu ∧ fp = fp)) from ⟨r_1, td, w, h, rw, f, n, X, Y, m, c, hrd, Or.inr ⟨by first | omega | (intro z; have hl0 : lm = 0 := (by omega); have hz := hrd.trans (prs_end (lt := ltr Tx lm) (len := lm) 200 _ (by omega : lm ≤ 0)); have := congrArg (fun y => y.2.1) hz; have h9 : td = 0 := this; omega), rfl, rfl, rfl, rfl, rfl, rfl, rfl, rfl⟩⟩) rfl
set_option maxHeartbeats 1000000 in
set_option maxRecDepth 100000 in
theorem c_X12_remembers (l : Launch) (g : Gx) (hM : Nat) (wi : Int) (hi : Int) (mN : Nat) (mC : Nat) (cm : Int) (ca : Int) (mL : Nat) (sc : Int) (qu : Int) (fp : Int) (mT : Nat) (lm : Int) (nw : Int) (nh : Int) (nr : Int) (mF : Nat) (mR : Nat) (mD : Nat) (mA : Nat) (ii : Int) (wo : Int) (wd : Int) (oe : Int) (mK : Nat) (rm : Int) (mH : Nat) (cn : Int) (N : Int → Int) (Cg : Int → Int) (kca : 0 ≤ ca ∧ ca ≤ 5) (kcm : 0 ≤ cm ∧ cm ≤ 6) (sz : Nat) : Met l yX12_remembers (.code yX12_remembers cX12_remembers 2 none :: wsL_law) { frames := 0, cells := 0, slots := 0, locals := 0 } (PR g [.ref hM] [(hM, oB 11 [vi wi, vi hi, .ref mN, .ref mC, vi cm, vi ca, .ref mL, vi sc, vi qu, vi fp, .ref mT, vi lm, vi nw, vi nh, vi nr, .ref mF, .ref mR, .ref mD, .ref mA, vi ii, vi wo, vi wd, vi oe, .ref mK, vi rm, .ref mH, vi cn]), (mN, aI g 145 N), (mC, aI g 870 Cg)] sz) (PV (S := Unit) g (fun u_ => True) (fun u_ => [(hM, oB 11 [vi wi, vi hi, .ref mN, .ref mC, vi (min (cm + 1) 6), vi ((ca + 1) % 6), .ref mL, vi sc, vi qu, vi fp, .ref mT, vi lm, vi nw, vi nh, vi nr, .ref mF, .ref mR, .ref mD, .ref mA, vi ii, vi wo, vi wd, vi oe, .ref mK, vi rm, .ref mH, vi cn]), (mN, aI g 145 N), (mC, aI g 870 (cpC N Cg ca 145))]) [(hM, oB 11 [vi wi, vi hi, .ref mN, .ref mC, vi cm, vi ca, .ref mL, vi sc, vi qu, vi fp, .ref mT, vi lm, vi nw, vi nh, vi nr, .ref mF, .ref mR, .ref mD, .ref mA, vi ii, vi wo, vi wd, vi oe, .ref mK, vi rm, .ref mH, vi cn]), (mN, aI g 145 N), (mC, aI g 870 Cg)] sz) 0 0 (va_A [(hM, oB 11 [vi wi, vi hi, .ref mN, .ref mC, vi cm, vi ca, .ref mL, vi sc, vi qu, vi fp, .ref mT, vi lm, vi nw, vi nh, vi nr, .ref mF, .ref mR, .ref mD, .ref mA, vi ii, vi wo, vi wd, vi oe, .ref mK, vi rm, .ref mH, vi cn]), (mN, aI g 145 N), (mC, aI g 870 Cg)] sz) := by
  refine meet (own := RX12) rfl (plainFor_of_name (by decide +kernel)) rfl (fun p_ e_ s_ m_ args_ below_ meth_ c_ C hnm => ?_)
  refine r_at (ws' := [(hM, oB 11 [vi wi, vi hi, .ref mN, .ref mC, vi cm, vi ca, .ref mL, vi sc, vi qu, vi fp, .ref mT, vi lm, vi nw, vi nh, vi nr, .ref mF, .ref mR, .ref mD, .ref mA, vi ii, vi wo, vi wd, vi oe, .ref mK, vi rm, .ref mH, vi cn]), (mN, aI g 145 N), (mC, aI g 870 Cg)]) (lv' := [(0, .ref hM)]) rfl rfl ?_
  refine r_iconst C dX12_remembers_0 ?_
  refine r_istore_n C (lv' := [(1, vi 0), (0, .ref hM)]) dX12_remembers_1 rfl rfl ?_
  refine r_lv (lv' := [(0, .ref hM), (1, vi 0)]) [1, 0] rfl ?_
  refine r_loop (σ := Int × (Int → Int)) (fun z_ => (0 ≤ z_.1 ∧ z_.1 ≤ 145) ∧ (z_.2 = cpC N Cg ca z_.1)) (fun z_ => 145 - z_.1) (fun z_ => [(hM, oB 11 [vi wi, vi hi, .ref mN, .ref mC, vi cm, vi ca, .ref mL, vi sc, vi qu, vi fp, .ref mT, vi lm, vi nw, vi nh, vi nr, .ref mF, .ref mR, .ref mD, .ref mA, vi ii, vi wo, vi wd, vi oe, .ref mK, vi rm, .ref mH, vi cn]), (mN, aI g 145 N), (mC, aI g 870 z_.2)]) (fun z_ => [(0, .ref hM), (1, vi z_.1)]) (fun z_ hz => ?_) (fun z_ hz ih_2 => ?_) (((0, Cg) : Int × (Int → Int))) ?_
  · obtain ⟨i, P⟩ := z_
    obtain ⟨ji, jP⟩ := hz
    have ji : 0 ≤ i ∧ i ≤ 145 := ji
    have jP : P = cpC N Cg ca i := jP
    show (0 : Int) ≤ 145 - i
    omega
  rotate_left
  · show (0 ≤ 0 ∧ 0 ≤ 145) ∧ (Cg = cpC N Cg ca 0)
    exact ⟨(by decide), ((cpC_0 _ _ _).symm)⟩
  obtain ⟨i, P⟩ := z_
  obtain ⟨ji, jP⟩ := hz
  have ji : 0 ≤ i ∧ i ≤ 145 := ji
  have jP : P = cpC N Cg ca i := jP
  refine r_at (ws' := [(hM, oB 11 [vi wi, vi hi, .ref mN, .ref mC, vi cm, vi ca, .ref mL, vi sc, vi qu, vi fp, .ref mT, vi lm, vi nw, vi nh, vi nr, .ref mF, .ref mR, .ref mD, .ref mA, vi ii, vi wo, vi wd, vi oe, .ref mK, vi rm, .ref mH, vi cn]), (mN, aI g 145 N), (mC, aI g 870 P)]) (lv' := [(0, .ref hM), (1, vi i)]) rfl rfl ?_
  refine r_iload_n C dX12_remembers_2 1 rfl ?_
  refine r_sipush C dX12_remembers_3 rfl ?_
  refine r_icmp_ge C 36 dX12_remembers_6 rfl (by omega) (fun c_1 => ?_) (fun c_1 => ?_)
  · skip
    have hi145 : i = 145 := by omega
    refine r_ext C (f' := (cpC N Cg ca 145)) (ws' := [(hM, oB 11 [vi wi, vi hi, .ref mN, .ref mC, vi cm, vi ca, .ref mL, vi sc, vi qu, vi fp, .ref mT, vi lm, vi nw, vi nh, vi nr, .ref mF, .ref mR, .ref mD, .ref mA, vi ii, vi wo, vi wd, vi oe, .ref mK, vi rm, .ref mH, vi cn]), (mN, aI g 145 N), (mC, aI g 870 (cpC N Cg ca 145))]) 2 rfl (fun k h0 h1 => by rw [jP, hi145]) rfl ?_
    refine r_aload_n C dX12_remembers_36 0 rfl ?_
    refine r_aload_n C dX12_remembers_37 0 rfl ?_
    refine gf_X12_117 C dX12_remembers_38 0 rfl rfl ?_
    refine r_iconst C dX12_remembers_41 ?_
    refine r_iadd C dX12_remembers_42 ?_
    refine r_bipush C dX12_remembers_43 rfl ?_
    refine r_irem C dX12_remembers_45 (by omega) ?_
    refine pf_X12_117 C (ws' := [(hM, oB 11 [vi wi, vi hi, .ref mN, .ref mC, vi cm, vi ((ca + 1) % 6), .ref mL, vi sc, vi qu, vi fp, .ref mT, vi lm, vi nw, vi nh, vi nr, .ref mF, .ref mR, .ref mD, .ref mA, vi ii, vi wo, vi wd, vi oe, .ref mK, vi rm, .ref mH, vi cn]), (mN, aI g 145 N), (mC, aI g 870 (cpC N Cg ca 145))]) dX12_remembers_46 0 rfl (Nat.le_of_ble_eq_true rfl) rfl ?_
    refine r_aload_n C dX12_remembers_49 0 rfl ?_
    refine r_dup C dX12_remembers_50 rfl ?_
    refine gf_X12_105 C dX12_remembers_51 0 rfl rfl ?_
    refine r_aload_n C dX12_remembers_54 0 rfl ?_
    refine gf_X12_105 C dX12_remembers_55 0 rfl rfl ?_
    refine r_bipush C dX12_remembers_58 rfl ?_
    refine r_icmp_ge C 67 dX12_remembers_60 rfl (by omega) (fun c_2 => ?_) (fun c_2 => ?_)
    · skip
      refine r_iconst C dX12_remembers_67 ?_
      refine r_iadd C dX12_remembers_68 ?_
      refine r_eq (y := (min (cm + 1) 6)) (by omega) ?_
      refine pf_X12_105 C (ws' := [(hM, oB 11 [vi wi, vi hi, .ref mN, .ref mC, vi (min (cm + 1) 6), vi ((ca + 1) % 6), .ref mL, vi sc, vi qu, vi fp, .ref mT, vi lm, vi nw, vi nh, vi nr, .ref mF, .ref mR, .ref mD, .ref mA, vi ii, vi wo, vi wd, vi oe, .ref mK, vi rm, .ref mH, vi cn]), (mN, aI g 145 N), (mC, aI g 870 (cpC N Cg ca 145))]) dX12_remembers_69 0 rfl (Nat.le_of_ble_eq_true rfl) rfl ?_
      exact e_v C () dX12_remembers_72 (trivial) rfl
    · skip
      refine r_iconst C dX12_remembers_63 ?_
      refine r_goto C 68 dX12_remembers_64 rfl ?_
      refine r_iadd C dX12_remembers_68 ?_
      refine r_eq (y := (min (cm + 1) 6)) (by omega) ?_
      refine pf_X12_105 C (ws' := [(hM, oB 11 [vi wi, vi hi, .ref mN, .ref mC, vi (min (cm + 1) 6), vi ((ca + 1) % 6), .ref mL, vi sc, vi qu, vi fp, .ref mT, vi lm, vi nw, vi nh, vi nr, .ref mF, .ref mR, .ref mD, .ref mA, vi ii, vi wo, vi wd, vi oe, .ref mK, vi rm, .ref mH, vi cn]), (mN, aI g 145 N), (mC, aI g 870 (cpC N Cg ca 145))]) dX12_remembers_69 0 rfl (Nat.le_of_ble_eq_true rfl) rfl ?_
      exact e_v C () dX12_remembers_72 (trivial) rfl
  · skip
    refine r_aload_n C dX12_remembers_9 0 rfl ?_
    refine gf_X12_13 C dX12_remembers_10 0 rfl rfl ?_
    refine r_sipush C dX12_remembers_13 rfl ?_
    refine r_aload_n C dX12_remembers_16 0 rfl ?_
    refine gf_X12_117 C dX12_remembers_17 0 rfl rfl ?_
    refine r_imul C dX12_remembers_20 ?_
    refine r_iload_n C dX12_remembers_21 1 rfl ?_
    refine r_iadd C dX12_remembers_22 ?_
    refine r_aload_n C dX12_remembers_23 0 rfl ?_
    refine gf_X12_7 C dX12_remembers_24 0 rfl rfl ?_
    refine r_iload_n C dX12_remembers_27 1 rfl ?_
    refine r_iald C dX12_remembers_28 1 rfl rfl (by omega) ?_
    refine r_iast C (ws' := [(hM, oB 11 [vi wi, vi hi, .ref mN, .ref mC, vi cm, vi ca, .ref mL, vi sc, vi qu, vi fp, .ref mT, vi lm, vi nw, vi nh, vi nr, .ref mF, .ref mR, .ref mD, .ref mA, vi ii, vi wo, vi wd, vi oe, .ref mK, vi rm, .ref mH, vi cn]), (mN, aI g 145 N), (mC, aI g 870 (zU P ((145 * ca) + i) (N i)))]) dX12_remembers_29 2 rfl rfl (by omega) rfl ?_
    refine r_iinc C (lv' := [(1, vi (i + 1)), (0, .ref hM)]) dX12_remembers_30 1 rfl rfl rfl ?_
    refine r_goto C 2 dX12_remembers_33 rfl ?_
    refine r_lv (lv' := [(0, .ref hM), (1, vi (i + 1))]) [1, 0] rfl ?_
    exact ih_2 (i + 1, zU P ((145 * ca) + i) (N i)) (show (0 ≤ (i + 1) ∧ (i + 1) ≤ 145) ∧ ((zU P ((145 * ca) + i) (N i)) = cpC N Cg ca (i + 1)) from ⟨(by omega), (by rw [jP]; exact cpC_s N _ ji.1)⟩) (show 145 - (i + 1) < 145 - i from by omega)
set_option maxHeartbeats 1000000 in
set_option maxRecDepth 100000 in
theorem c_X12_undo (l : Launch) (g : Gx) (hM : Nat) (wi : Int) (hi : Int) (mN : Nat) (mC : Nat) (cm : Int) (ca : Int) (mL : Nat) (sc : Int) (qu : Int) (fp : Int) (mT : Nat) (lm : Int) (nw : Int) (nh : Int) (nr : Int) (mF : Nat) (mR : Nat) (mD : Nat) (mA : Nat) (ii : Int) (wo : Int) (wd : Int) (oe : Int) (mK : Nat) (rm : Int) (mH : Nat) (cn : Int) (N : Int → Int) (Cg : Int → Int) (kca : 0 ≤ ca ∧ ca ≤ 5) (kcm : 0 ≤ cm ∧ cm ≤ 6) (sz : Nat) : Met l yX12_undo (.code yX12_undo cX12_undo 2 (some .int) :: wsL_law) { frames := 0, cells := 0, slots := 0, locals := 0 } (PR g [.ref hM] [(hM, oB 11 [vi wi, vi hi, .ref mN, .ref mC, vi cm, vi ca, .ref mL, vi sc, vi qu, vi fp, .ref mT, vi lm, vi nw, vi nh, vi nr, .ref mF, .ref mR, .ref mD, .ref mA, vi ii, vi wo, vi wd, vi oe, .ref mK, vi rm, .ref mH, vi cn]), (mN, aI g 145 N), (mC, aI g 870 Cg)] sz) (PI (S := (Int → Int) × Int × Int) g (fun r u_ => (r = -2 ∧ cm = 0 ∧ u_.1 = N ∧ u_.2.1 = ca ∧ u_.2.2 = cm) ∨ (0 < cm ∧ r = cm - 1 ∧ u_.1 = (fun j => Cg (145 * ((ca + 5) % 6) + j)) ∧ u_.2.1 = (ca + 5) % 6 ∧ u_.2.2 = cm - 1)) (fun u_ => [(hM, oB 11 [vi wi, vi hi, .ref mN, .ref mC, vi u_.2.2, vi u_.2.1, .ref mL, vi sc, vi qu, vi fp, .ref mT, vi lm, vi nw, vi nh, vi nr, .ref mF, .ref mR, .ref mD, .ref mA, vi ii, vi wo, vi wd, vi oe, .ref mK, vi rm, .ref mH, vi cn]), (mN, aI g 145 u_.1), (mC, aI g 870 Cg)]) [(hM, oB 11 [vi wi, vi hi, .ref mN, .ref mC, vi cm, vi ca, .ref mL, vi sc, vi qu, vi fp, .ref mT, vi lm, vi nw, vi nh, vi nr, .ref mF, .ref mR, .ref mD, .ref mA, vi ii, vi wo, vi wd, vi oe, .ref mK, vi rm, .ref mH, vi cn]), (mN, aI g 145 N), (mC, aI g 870 Cg)] sz) 0 0 (va_A [(hM, oB 11 [vi wi, vi hi, .ref mN, .ref mC, vi cm, vi ca, .ref mL, vi sc, vi qu, vi fp, .ref mT, vi lm, vi nw, vi nh, vi nr, .ref mF, .ref mR, .ref mD, .ref mA, vi ii, vi wo, vi wd, vi oe, .ref mK, vi rm, .ref mH, vi cn]), (mN, aI g 145 N), (mC, aI g 870 Cg)] sz) := by
  refine meet (own := RX12) rfl (plainFor_of_name (by decide +kernel)) rfl (fun p_ e_ s_ m_ args_ below_ meth_ c_ C hnm => ?_)
  refine r_at (ws' := [(hM, oB 11 [vi wi, vi hi, .ref mN, .ref mC, vi cm, vi ca, .ref mL, vi sc, vi qu, vi fp, .ref mT, vi lm, vi nw, vi nh, vi nr, .ref mF, .ref mR, .ref mD, .ref mA, vi ii, vi wo, vi wd, vi oe, .ref mK, vi rm, .ref mH, vi cn]), (mN, aI g 145 N), (mC, aI g 870 Cg)]) (lv' := [(0, .ref hM)]) rfl rfl ?_
  refine r_aload_n C dX12_undo_0 0 rfl ?_
  refine gf_X12_105 C dX12_undo_1 0 rfl rfl ?_
  refine r_if_ne C 10 dX12_undo_4 rfl (by omega) (fun c_1 => ?_) (fun c_1 => ?_)
  · skip
    refine r_aload_n C dX12_undo_10 0 rfl ?_
    refine r_aload_n C dX12_undo_11 0 rfl ?_
    refine gf_X12_117 C dX12_undo_12 0 rfl rfl ?_
    refine r_bipush C dX12_undo_15 rfl ?_
    refine r_iadd C dX12_undo_17 ?_
    refine r_iconst C dX12_undo_18 ?_
    refine r_isub C dX12_undo_19 ?_
    refine r_bipush C dX12_undo_20 rfl ?_
    refine r_irem C dX12_undo_22 (by omega) ?_
    refine r_eq (y := ((ca + 5) % 6)) (by omega) ?_
    refine pf_X12_117 C (ws' := [(hM, oB 11 [vi wi, vi hi, .ref mN, .ref mC, vi cm, vi ((ca + 5) % 6), .ref mL, vi sc, vi qu, vi fp, .ref mT, vi lm, vi nw, vi nh, vi nr, .ref mF, .ref mR, .ref mD, .ref mA, vi ii, vi wo, vi wd, vi oe, .ref mK, vi rm, .ref mH, vi cn]), (mN, aI g 145 N), (mC, aI g 870 Cg)]) dX12_undo_23 0 rfl (Nat.le_of_ble_eq_true rfl) rfl ?_
    refine r_aload_n C dX12_undo_26 0 rfl ?_
    refine r_dup C dX12_undo_27 rfl ?_
    refine gf_X12_105 C dX12_undo_28 0 rfl rfl ?_
    refine r_iconst C dX12_undo_31 ?_
    refine r_isub C dX12_undo_32 ?_
    refine pf_X12_105 C (ws' := [(hM, oB 11 [vi wi, vi hi, .ref mN, .ref mC, vi (cm - 1), vi ((ca + 5) % 6), .ref mL, vi sc, vi qu, vi fp, .ref mT, vi lm, vi nw, vi nh, vi nr, .ref mF, .ref mR, .ref mD, .ref mA, vi ii, vi wo, vi wd, vi oe, .ref mK, vi rm, .ref mH, vi cn]), (mN, aI g 145 N), (mC, aI g 870 Cg)]) dX12_undo_33 0 rfl (Nat.le_of_ble_eq_true rfl) rfl ?_
    refine r_iconst C dX12_undo_36 ?_
    refine r_istore_n C (lv' := [(1, vi 0), (0, .ref hM)]) dX12_undo_37 rfl rfl ?_
    refine r_lv (lv' := [(0, .ref hM), (1, vi 0)]) [1, 0] rfl ?_
    refine r_loop (σ := Int × (Int → Int)) (fun z_ => (0 ≤ z_.1 ∧ z_.1 ≤ 145) ∧ (z_.2 = cpI (fun j => Cg (145 * ((ca + 5) % 6) + j)) N z_.1)) (fun z_ => 145 - z_.1) (fun z_ => [(hM, oB 11 [vi wi, vi hi, .ref mN, .ref mC, vi (cm - 1), vi ((ca + 5) % 6), .ref mL, vi sc, vi qu, vi fp, .ref mT, vi lm, vi nw, vi nh, vi nr, .ref mF, .ref mR, .ref mD, .ref mA, vi ii, vi wo, vi wd, vi oe, .ref mK, vi rm, .ref mH, vi cn]), (mN, aI g 145 z_.2), (mC, aI g 870 Cg)]) (fun z_ => [(0, .ref hM), (1, vi z_.1)]) (fun z_ hz => ?_) (fun z_ hz ih_38 => ?_) (((0, N) : Int × (Int → Int))) ?_
    · obtain ⟨i, P⟩ := z_
      obtain ⟨ji, jP⟩ := hz
      have ji : 0 ≤ i ∧ i ≤ 145 := ji
      have jP : P = cpI (fun j => Cg (145 * ((ca + 5) % 6) + j)) N i := jP
      show (0 : Int) ≤ 145 - i
      omega
    rotate_left
    · show (0 ≤ 0 ∧ 0 ≤ 145) ∧ (N = cpI (fun j => Cg (145 * ((ca + 5) % 6) + j)) N 0)
      exact ⟨(by decide), ((cpI_0 _ _).symm)⟩
    obtain ⟨i, P⟩ := z_
    obtain ⟨ji, jP⟩ := hz
    have ji : 0 ≤ i ∧ i ≤ 145 := ji
    have jP : P = cpI (fun j => Cg (145 * ((ca + 5) % 6) + j)) N i := jP
    refine r_at (ws' := [(hM, oB 11 [vi wi, vi hi, .ref mN, .ref mC, vi (cm - 1), vi ((ca + 5) % 6), .ref mL, vi sc, vi qu, vi fp, .ref mT, vi lm, vi nw, vi nh, vi nr, .ref mF, .ref mR, .ref mD, .ref mA, vi ii, vi wo, vi wd, vi oe, .ref mK, vi rm, .ref mH, vi cn]), (mN, aI g 145 P), (mC, aI g 870 Cg)]) (lv' := [(0, .ref hM), (1, vi i)]) rfl rfl ?_
    refine r_iload_n C dX12_undo_38 1 rfl ?_
    refine r_sipush C dX12_undo_39 rfl ?_
    refine r_icmp_ge C 72 dX12_undo_42 rfl (by omega) (fun c_2 => ?_) (fun c_2 => ?_)
    · skip
      have hi145 : i = 145 := by omega
      refine r_ext C (f' := (fun j => Cg (145 * ((ca + 5) % 6) + j))) (ws' := [(hM, oB 11 [vi wi, vi hi, .ref mN, .ref mC, vi (cm - 1), vi ((ca + 5) % 6), .ref mL, vi sc, vi qu, vi fp, .ref mT, vi lm, vi nw, vi nh, vi nr, .ref mF, .ref mR, .ref mD, .ref mA, vi ii, vi wo, vi wd, vi oe, .ref mK, vi rm, .ref mH, vi cn]), (mN, aI g 145 (fun j => Cg (145 * ((ca + 5) % 6) + j))), (mC, aI g 870 Cg)]) 1 rfl (fun k h0 h1 => by rw [jP, hi145]; exact cpI_in _ _ h0 h1) rfl ?_
      refine r_aload_n C dX12_undo_72 0 rfl ?_
      refine gf_X12_105 C dX12_undo_73 0 rfl rfl ?_
      exact e_i C (fun j => Cg (145 * ((ca + 5) % 6) + j), (ca + 5) % 6, cm - 1) dX12_undo_76 (show ((cm - 1) = -2 ∧ cm = 0 ∧ (fun j => Cg (145 * ((ca + 5) % 6) + j)) = N ∧ ((ca + 5) % 6) = ca ∧ (cm - 1) = cm) ∨ (0 < cm ∧ (cm - 1) = cm - 1 ∧ (fun j => Cg (145 * ((ca + 5) % 6) + j)) = (fun j => Cg (145 * ((ca + 5) % 6) + j)) ∧ ((ca + 5) % 6) = (ca + 5) % 6 ∧ (cm - 1) = cm - 1) from Or.inr ⟨by omega, rfl, rfl, rfl, rfl⟩) rfl
    · skip
      refine r_aload_n C dX12_undo_45 0 rfl ?_
      refine gf_X12_7 C dX12_undo_46 0 rfl rfl ?_
      refine r_iload_n C dX12_undo_49 1 rfl ?_
      refine r_aload_n C dX12_undo_50 0 rfl ?_
      refine gf_X12_13 C dX12_undo_51 0 rfl rfl ?_
      refine r_sipush C dX12_undo_54 rfl ?_
      refine r_aload_n C dX12_undo_57 0 rfl ?_
      refine gf_X12_117 C dX12_undo_58 0 rfl rfl ?_
      refine r_imul C dX12_undo_61 ?_
      refine r_iload_n C dX12_undo_62 1 rfl ?_
      refine r_iadd C dX12_undo_63 ?_
      refine r_iald C dX12_undo_64 2 rfl rfl (by omega) ?_
      refine r_iast C (ws' := [(hM, oB 11 [vi wi, vi hi, .ref mN, .ref mC, vi (cm - 1), vi ((ca + 5) % 6), .ref mL, vi sc, vi qu, vi fp, .ref mT, vi lm, vi nw, vi nh, vi nr, .ref mF, .ref mR, .ref mD, .ref mA, vi ii, vi wo, vi wd, vi oe, .ref mK, vi rm, .ref mH, vi cn]), (mN, aI g 145 (zU P i (Cg ((145 * ((ca + 5) % 6)) + i)))), (mC, aI g 870 Cg)]) dX12_undo_65 1 rfl rfl (by omega) rfl ?_
      refine r_iinc C (lv' := [(1, vi (i + 1)), (0, .ref hM)]) dX12_undo_66 1 rfl rfl rfl ?_
      refine r_goto C 38 dX12_undo_69 rfl ?_
      refine r_lv (lv' := [(0, .ref hM), (1, vi (i + 1))]) [1, 0] rfl ?_
      exact ih_38 (i + 1, zU P i (Cg ((145 * ((ca + 5) % 6)) + i))) (show (0 ≤ (i + 1) ∧ (i + 1) ≤ 145) ∧ ((zU P i (Cg ((145 * ((ca + 5) % 6)) + i))) = cpI (fun j => Cg (145 * ((ca + 5) % 6) + j)) N (i + 1)) from ⟨(by omega), (by rw [jP]; exact cpI_s (fun j => Cg (145 * ((ca + 5) % 6) + j)) _ ji.1)⟩) (show 145 - (i + 1) < 145 - i from by omega)
  · skip
    refine r_bipush C dX12_undo_7 rfl ?_
    exact e_i C (N, ca, cm) dX12_undo_9 (show ((-2) = -2 ∧ cm = 0 ∧ N = N ∧ ca = ca ∧ cm = cm) ∨ (0 < cm ∧ (-2) = cm - 1 ∧ N = (fun j => Cg (145 * ((ca + 5) % 6) + j)) ∧ ca = (ca + 5) % 6 ∧ cm = cm - 1) from Or.inl ⟨rfl, by omega, rfl, rfl, rfl⟩) rfl
set_option maxHeartbeats 1000000 in
set_option maxRecDepth 100000 in
theorem c_X12_isCell (l : Launch) (g : Gx) (hM : Nat) (wi : Int) (hi : Int) (mN : Nat) (mC : Nat) (cm : Int) (ca : Int) (mL : Nat) (sc : Int) (qu : Int) (fp : Int) (mT : Nat) (lm : Int) (nw : Int) (nh : Int) (nr : Int) (mF : Nat) (mR : Nat) (mD : Nat) (mA : Nat) (ii : Int) (wo : Int) (wd : Int) (oe : Int) (mK : Nat) (rm : Int) (mH : Nat) (cn : Int) (x : Int) (y : Int) (nW : 4 ≤ wi ∧ wi ≤ 11) (nH : 4 ≤ hi ∧ hi ≤ 11) (bbx : -2147483648 ≤ x ∧ x ≤ 2147483647) (bby : -2147483648 ≤ y ∧ y ≤ 2147483647) (sz : Nat) : Met l yX12_isCell (.code yX12_isCell cX12_isCell 3 (some .boolean) :: wsL_law) { frames := 1, cells := 0, slots := 0, locals := 22 } (PR g [.ref hM, vi x, vi y] [(hM, oB 11 [vi wi, vi hi, .ref mN, .ref mC, vi cm, vi ca, .ref mL, vi sc, vi qu, vi fp, .ref mT, vi lm, vi nw, vi nh, vi nr, .ref mF, .ref mR, .ref mD, .ref mA, vi ii, vi wo, vi wd, vi oe, .ref mK, vi rm, .ref mH, vi cn])] sz) (PI (S := Unit) g (fun r u_ => (r = 1 ∧ 0 ≤ x ∧ x < wi ∧ 0 ≤ y ∧ y < hi) ∨ (r = 0 ∧ ¬ (0 ≤ x ∧ x < wi ∧ 0 ≤ y ∧ y < hi))) (fun u_ => [(hM, oB 11 [vi wi, vi hi, .ref mN, .ref mC, vi cm, vi ca, .ref mL, vi sc, vi qu, vi fp, .ref mT, vi lm, vi nw, vi nh, vi nr, .ref mF, .ref mR, .ref mD, .ref mA, vi ii, vi wo, vi wd, vi oe, .ref mK, vi rm, .ref mH, vi cn])]) [(hM, oB 11 [vi wi, vi hi, .ref mN, .ref mC, vi cm, vi ca, .ref mL, vi sc, vi qu, vi fp, .ref mT, vi lm, vi nw, vi nh, vi nr, .ref mF, .ref mR, .ref mD, .ref mA, vi ii, vi wo, vi wd, vi oe, .ref mK, vi rm, .ref mH, vi cn])] sz) 0 0 (va_A [(hM, oB 11 [vi wi, vi hi, .ref mN, .ref mC, vi cm, vi ca, .ref mL, vi sc, vi qu, vi fp, .ref mT, vi lm, vi nw, vi nh, vi nr, .ref mF, .ref mR, .ref mD, .ref mA, vi ii, vi wo, vi wd, vi oe, .ref mK, vi rm, .ref mH, vi cn])] sz) := by
  refine meet (own := RX12) rfl (plainFor_of_name (by decide +kernel)) rfl (fun p_ e_ s_ m_ args_ below_ meth_ c_ C hnm => ?_)
  refine r_at (ws' := [(hM, oB 11 [vi wi, vi hi, .ref mN, .ref mC, vi cm, vi ca, .ref mL, vi sc, vi qu, vi fp, .ref mT, vi lm, vi nw, vi nh, vi nr, .ref mF, .ref mR, .ref mD, .ref mA, vi ii, vi wo, vi wd, vi oe, .ref mK, vi rm, .ref mH, vi cn])]) (lv' := [(0, .ref hM), (1, vi x), (2, vi y)]) rfl rfl ?_
  refine r_iload_n C dX12_isCell_0 1 rfl ?_
  refine r_iconst C dX12_isCell_1 ?_
  refine r_aload_n C dX12_isCell_2 0 rfl ?_
  refine gf_X12_44 C dX12_isCell_3 0 rfl rfl ?_
  refine r_iconst C dX12_isCell_6 ?_
  refine r_isub C dX12_isCell_7 ?_
  refine k_Si C ks_X12_58 (fun sz => c_X12_in l g x 0 (wi - 1) (by omega) (by omega) (by omega) sz) dX12_isCell_8 rfl rfl rfl ⟨rfl, rfl⟩ [] rfl rfl (fun _ => rfl) (ws' := fun u_ => [(hM, oB 11 [vi wi, vi hi, .ref mN, .ref mC, vi cm, vi ca, .ref mL, vi sc, vi qu, vi fp, .ref mT, vi lm, vi nw, vi nh, vi nr, .ref mF, .ref mR, .ref mD, .ref mA, vi ii, vi wo, vi wd, vi oe, .ref mK, vi rm, .ref mH, vi cn])]) (fun _ => rfl) (fun r_8 u_ p_8 => ?_)
  have p_8 : (r_8 = 1 ∧ 0 ≤ x ∧ x ≤ (wi - 1)) ∨ (r_8 = 0 ∧ ¬ (0 ≤ x ∧ x ≤ (wi - 1))) := p_8
  refine r_if_eq C 32 dX12_isCell_11 rfl (by omega) (fun c_1 => ?_) (fun c_1 => ?_)
  · skip
    refine r_iconst C dX12_isCell_32 ?_
    exact e_z C () dX12_isCell_33 (by omega) (show (0 = 1 ∧ 0 ≤ x ∧ x < wi ∧ 0 ≤ y ∧ y < hi) ∨ (0 = 0 ∧ ¬ (0 ≤ x ∧ x < wi ∧ 0 ≤ y ∧ y < hi)) from by omega) rfl
  · skip
    refine r_iload_n C dX12_isCell_14 2 rfl ?_
    refine r_iconst C dX12_isCell_15 ?_
    refine r_aload_n C dX12_isCell_16 0 rfl ?_
    refine gf_X12_47 C dX12_isCell_17 0 rfl rfl ?_
    refine r_iconst C dX12_isCell_20 ?_
    refine r_isub C dX12_isCell_21 ?_
    refine k_Si C ks_X12_58 (fun sz => c_X12_in l g y 0 (hi - 1) (by omega) (by omega) (by omega) sz) dX12_isCell_22 rfl rfl rfl ⟨rfl, rfl⟩ [] rfl rfl (fun _ => rfl) (ws' := fun u_ => [(hM, oB 11 [vi wi, vi hi, .ref mN, .ref mC, vi cm, vi ca, .ref mL, vi sc, vi qu, vi fp, .ref mT, vi lm, vi nw, vi nh, vi nr, .ref mF, .ref mR, .ref mD, .ref mA, vi ii, vi wo, vi wd, vi oe, .ref mK, vi rm, .ref mH, vi cn])]) (fun _ => rfl) (fun r_22 u_ p_22 => ?_)
    have p_22 : (r_22 = 1 ∧ 0 ≤ y ∧ y ≤ (hi - 1)) ∨ (r_22 = 0 ∧ ¬ (0 ≤ y ∧ y ≤ (hi - 1))) := p_22
    refine r_if_eq C 32 dX12_isCell_25 rfl (by omega) (fun c_2 => ?_) (fun c_2 => ?_)
    · skip
      refine r_iconst C dX12_isCell_32 ?_
      exact e_z C () dX12_isCell_33 (by omega) (show (0 = 1 ∧ 0 ≤ x ∧ x < wi ∧ 0 ≤ y ∧ y < hi) ∨ (0 = 0 ∧ ¬ (0 ≤ x ∧ x < wi ∧ 0 ≤ y ∧ y < hi)) from by omega) rfl
    · skip
      refine r_iconst C dX12_isCell_28 ?_
      refine r_goto C 33 dX12_isCell_29 rfl ?_
      exact e_z C () dX12_isCell_33 (by omega) (show (1 = 1 ∧ 0 ≤ x ∧ x < wi ∧ 0 ≤ y ∧ y < hi) ∨ (1 = 0 ∧ ¬ (0 ≤ x ∧ x < wi ∧ 0 ≤ y ∧ y < hi)) from by omega) rfl
set_option maxHeartbeats 1000000 in
set_option maxRecDepth 100000 in
theorem c_X12_at (l : Launch) (g : Gx) (x : Int) (y : Int) (sz : Nat) : Met l yX12_at (.code yX12_at cX12_at 2 (some .int) :: wsL_law) { frames := 0, cells := 0, slots := 0, locals := 0 } (PR g [vi x, vi y] [] sz) (PI (S := Unit) g (fun r u_ => r = 11 * y + x) (fun u_ => []) [] sz) 0 0 (va_A [] sz) := by
  refine meet (own := RX12) rfl (plainFor_of_name (by decide +kernel)) rfl (fun p_ e_ s_ m_ args_ below_ meth_ c_ C hnm => ?_)
  refine r_at (ws' := []) (lv' := [(0, vi x), (1, vi y)]) rfl rfl ?_
  refine r_bipush C dX12_at_0 rfl ?_
  refine r_iload_n C dX12_at_2 1 rfl ?_
  refine r_imul C dX12_at_3 ?_
  refine r_iload_n C dX12_at_4 0 rfl ?_
  refine r_iadd C dX12_at_5 ?_
  exact e_i C () dX12_at_6 (show ((11 * y) + x) = 11 * y + x from rfl) rfl
set_option maxHeartbeats 1000000 in
set_option maxRecDepth 100000 in
theorem c_X12_edge (l : Launch) (g : Gx) (hM : Nat) (wi : Int) (hi : Int) (mN : Nat) (mC : Nat) (cm : Int) (ca : Int) (mL : Nat) (sc : Int) (qu : Int) (fp : Int) (mT : Nat) (lm : Int) (nw : Int) (nh : Int) (nr : Int) (mF : Nat) (mR : Nat) (mD : Nat) (mA : Nat) (ii : Int) (wo : Int) (wd : Int) (oe : Int) (mK : Nat) (rm : Int) (mH : Nat) (cn : Int) (N : Int → Int) (Cg : Int → Int) (x : Int) (y : Int) (q : Int) (hN : MOK wi hi N) (kca : 0 ≤ ca ∧ ca ≤ 5) (kcm : 0 ≤ cm ∧ cm ≤ 6) (bbx : -2147483648 ≤ x ∧ x ≤ 2147483647) (bby : -2147483648 ≤ y ∧ y ≤ 2147483647) (bbq : -2147483648 ≤ q ∧ q ≤ 2147483647) (sz : Nat) : Met l yX12_edge (.code yX12_edge cX12_edge 4 (some .int) :: wsL_law) { frames := 2, cells := 0, slots := 0, locals := 44 } (PR g [.ref hM, vi x, vi y, vi q] [(hM, oB 11 [vi wi, vi hi, .ref mN, .ref mC, vi cm, vi ca, .ref mL, vi sc, vi qu, vi fp, .ref mT, vi lm, vi nw, vi nh, vi nr, .ref mF, .ref mR, .ref mD, .ref mA, vi ii, vi wo, vi wd, vi oe, .ref mK, vi rm, .ref mH, vi cn]), (mN, aI g 145 N), (mC, aI g 870 Cg)] sz) (PI (S := (Int → Int) × (Int → Int) × Int × Int) g (fun r u_ => (r = -1 ∧ ¬ ((0 ≤ x ∧ x < wi ∧ 0 ≤ y ∧ y < hi) ∧ 0 ≤ q ∧ q ≤ 1) ∧ MSA N Cg ca cm u_.1 u_.2.1 u_.2.2.1 u_.2.2.2) ∨ (r = -2 ∧ ((0 ≤ x ∧ x < wi ∧ 0 ≤ y ∧ y < hi) ∧ 0 ≤ q ∧ q ≤ 1) ∧ N (11 * y + x) = q ∧ MSA N Cg ca cm u_.1 u_.2.1 u_.2.2.1 u_.2.2.2) ∨ (((0 ≤ x ∧ x < wi ∧ 0 ≤ y ∧ y < hi) ∧ 0 ≤ q ∧ q ≤ 1) ∧ ¬ N (11 * y + x) = q ∧ u_.1 = zU N (11 * y + x) q ∧ MCH N Cg ca cm u_.2.1 u_.2.2.1 u_.2.2.2 ∧ r = sI u_.1 121)) (fun u_ => [(hM, oB 11 [vi wi, vi hi, .ref mN, .ref mC, vi u_.2.2.2, vi u_.2.2.1, .ref mL, vi sc, vi qu, vi fp, .ref mT, vi lm, vi nw, vi nh, vi nr, .ref mF, .ref mR, .ref mD, .ref mA, vi ii, vi wo, vi wd, vi oe, .ref mK, vi rm, .ref mH, vi cn]), (mN, aI g 145 u_.1), (mC, aI g 870 u_.2.1)]) [(hM, oB 11 [vi wi, vi hi, .ref mN, .ref mC, vi cm, vi ca, .ref mL, vi sc, vi qu, vi fp, .ref mT, vi lm, vi nw, vi nh, vi nr, .ref mF, .ref mR, .ref mD, .ref mA, vi ii, vi wo, vi wd, vi oe, .ref mK, vi rm, .ref mH, vi cn]), (mN, aI g 145 N), (mC, aI g 870 Cg)] sz) 0 0 (va_A [(hM, oB 11 [vi wi, vi hi, .ref mN, .ref mC, vi cm, vi ca, .ref mL, vi sc, vi qu, vi fp, .ref mT, vi lm, vi nw, vi nh, vi nr, .ref mF, .ref mR, .ref mD, .ref mA, vi ii, vi wo, vi wd, vi oe, .ref mK, vi rm, .ref mH, vi cn]), (mN, aI g 145 N), (mC, aI g 870 Cg)] sz) := by
  refine meet (own := RX12) rfl (plainFor_of_name (by decide +kernel)) rfl (fun p_ e_ s_ m_ args_ below_ meth_ c_ C hnm => ?_)
  refine r_at (ws' := [(hM, oB 11 [vi wi, vi hi, .ref mN, .ref mC, vi cm, vi ca, .ref mL, vi sc, vi qu, vi fp, .ref mT, vi lm, vi nw, vi nh, vi nr, .ref mF, .ref mR, .ref mD, .ref mA, vi ii, vi wo, vi wd, vi oe, .ref mK, vi rm, .ref mH, vi cn]), (mN, aI g 145 N), (mC, aI g 870 Cg)]) (lv' := [(0, .ref hM), (1, vi x), (2, vi y), (3, vi q)]) rfl rfl ?_
  obtain ⟨nW, nH, n1, nO, nn, nX, nY, nM, nC, nT⟩ := id hN
  refine r_aload_n C dX12_edge_0 0 rfl ?_
  refine r_iload_n C dX12_edge_1 1 rfl ?_
  refine r_iload_n C dX12_edge_2 2 rfl ?_
  refine k_Vi C kv_X12_120 (fun sz => c_X12_isCell l g hM wi hi mN mC cm ca mL sc qu fp mT lm nw nh nr mF mR mD mA ii wo wd oe mK rm mH cn x y nW nH (by omega) (by omega) sz) dX12_edge_3 rfl rfl rfl ⟨rfl, rfl⟩ 0 11 rfl rfl rfl [0] rfl rfl (fun _ => rfl) (ws' := fun u_ => [(hM, oB 11 [vi wi, vi hi, .ref mN, .ref mC, vi cm, vi ca, .ref mL, vi sc, vi qu, vi fp, .ref mT, vi lm, vi nw, vi nh, vi nr, .ref mF, .ref mR, .ref mD, .ref mA, vi ii, vi wo, vi wd, vi oe, .ref mK, vi rm, .ref mH, vi cn]), (mN, aI g 145 N), (mC, aI g 870 Cg)]) (fun _ => rfl) (fun r_3 u_ p_3 => ?_)
  have p_3 : (r_3 = 1 ∧ 0 ≤ x ∧ x < wi ∧ 0 ≤ y ∧ y < hi) ∨ (r_3 = 0 ∧ ¬ (0 ≤ x ∧ x < wi ∧ 0 ≤ y ∧ y < hi)) := p_3
  refine r_if_eq C 18 dX12_edge_6 rfl (by omega) (fun c_1 => ?_) (fun c_1 => ?_)
  · skip
    refine r_iconst C dX12_edge_18 ?_
    exact e_i C (N, Cg, ca, cm) dX12_edge_19 (show ((-1) = -1 ∧ ¬ ((0 ≤ x ∧ x < wi ∧ 0 ≤ y ∧ y < hi) ∧ 0 ≤ q ∧ q ≤ 1) ∧ MSA N Cg ca cm N Cg ca cm) ∨ ((-1) = -2 ∧ ((0 ≤ x ∧ x < wi ∧ 0 ≤ y ∧ y < hi) ∧ 0 ≤ q ∧ q ≤ 1) ∧ N (11 * y + x) = q ∧ MSA N Cg ca cm N Cg ca cm) ∨ (((0 ≤ x ∧ x < wi ∧ 0 ≤ y ∧ y < hi) ∧ 0 ≤ q ∧ q ≤ 1) ∧ ¬ N (11 * y + x) = q ∧ N = zU N (11 * y + x) q ∧ MCH N Cg ca cm Cg ca cm ∧ (-1) = sI N 121) from Or.inl ⟨rfl, by omega, ⟨rfl, rfl, rfl, rfl⟩⟩) rfl
  · skip
    refine r_iload_n C dX12_edge_9 3 rfl ?_
    refine r_iconst C dX12_edge_10 ?_
    refine r_iconst C dX12_edge_11 ?_
    refine k_Si C ks_X12_58 (fun sz => c_X12_in l g q 0 1 (by omega) (by omega) (by omega) sz) dX12_edge_12 rfl rfl rfl ⟨rfl, rfl⟩ [] rfl rfl (fun _ => rfl) (ws' := fun u_ => [(hM, oB 11 [vi wi, vi hi, .ref mN, .ref mC, vi cm, vi ca, .ref mL, vi sc, vi qu, vi fp, .ref mT, vi lm, vi nw, vi nh, vi nr, .ref mF, .ref mR, .ref mD, .ref mA, vi ii, vi wo, vi wd, vi oe, .ref mK, vi rm, .ref mH, vi cn]), (mN, aI g 145 N), (mC, aI g 870 Cg)]) (fun _ => rfl) (fun r_12 u_ p_12 => ?_)
    have p_12 : (r_12 = 1 ∧ 0 ≤ q ∧ q ≤ 1) ∨ (r_12 = 0 ∧ ¬ (0 ≤ q ∧ q ≤ 1)) := p_12
    refine r_if_ne C 20 dX12_edge_15 rfl (by omega) (fun c_2 => ?_) (fun c_2 => ?_)
    · skip
      refine r_aload_n C dX12_edge_20 0 rfl ?_
      refine gf_X12_7 C dX12_edge_21 0 rfl rfl ?_
      refine r_iload_n C dX12_edge_24 1 rfl ?_
      refine r_iload_n C dX12_edge_25 2 rfl ?_
      refine k_Si C ks_X12_50 (fun sz => c_X12_at l g x y sz) dX12_edge_26 rfl rfl rfl ⟨rfl, rfl⟩ [] rfl rfl (fun _ => rfl) (ws' := fun u_ => [(hM, oB 11 [vi wi, vi hi, .ref mN, .ref mC, vi cm, vi ca, .ref mL, vi sc, vi qu, vi fp, .ref mT, vi lm, vi nw, vi nh, vi nr, .ref mF, .ref mR, .ref mD, .ref mA, vi ii, vi wo, vi wd, vi oe, .ref mK, vi rm, .ref mH, vi cn]), (mN, aI g 145 N), (mC, aI g 870 Cg)]) (fun _ => rfl) (fun r_26 u_ p_26 => ?_)
      have p_26 : r_26 = 11 * y + x := p_26
      refine r_eq (y := (11 * y + x)) p_26 ?_
      refine r_iald C dX12_edge_29 1 rfl rfl (by omega) ?_
      have e01 := n1 (11 * y + x) (by omega) (by omega)
      refine r_iload_n C dX12_edge_30 3 rfl ?_
      refine r_icmp_ne C 37 dX12_edge_31 rfl (by omega) (fun c_3 => ?_) (fun c_3 => ?_)
      · skip
        refine r_aload_n C dX12_edge_37 0 rfl ?_
        refine k_Vv C kv_X12_124 (fun sz => c_X12_remembers l g hM wi hi mN mC cm ca mL sc qu fp mT lm nw nh nr mF mR mD mA ii wo wd oe mK rm mH cn N Cg kca kcm sz) dX12_edge_38 rfl rfl rfl ⟨rfl, rfl⟩ 0 11 rfl rfl rfl [0, 1, 2] rfl rfl (fun _ => rfl) (ws' := fun u_ => [(hM, oB 11 [vi wi, vi hi, .ref mN, .ref mC, vi (min (cm + 1) 6), vi ((ca + 1) % 6), .ref mL, vi sc, vi qu, vi fp, .ref mT, vi lm, vi nw, vi nh, vi nr, .ref mF, .ref mR, .ref mD, .ref mA, vi ii, vi wo, vi wd, vi oe, .ref mK, vi rm, .ref mH, vi cn]), (mN, aI g 145 N), (mC, aI g 870 (cpC N Cg ca 145))]) (fun _ => rfl) (fun u_ p_38 => ?_)
        refine r_aload_n C dX12_edge_41 0 rfl ?_
        refine gf_X12_7 C dX12_edge_42 0 rfl rfl ?_
        refine r_iload_n C dX12_edge_45 1 rfl ?_
        refine r_iload_n C dX12_edge_46 2 rfl ?_
        refine k_Si C ks_X12_50 (fun sz => c_X12_at l g x y sz) dX12_edge_47 rfl rfl rfl ⟨rfl, rfl⟩ [] rfl rfl (fun _ => rfl) (ws' := fun u_ => [(hM, oB 11 [vi wi, vi hi, .ref mN, .ref mC, vi (min (cm + 1) 6), vi ((ca + 1) % 6), .ref mL, vi sc, vi qu, vi fp, .ref mT, vi lm, vi nw, vi nh, vi nr, .ref mF, .ref mR, .ref mD, .ref mA, vi ii, vi wo, vi wd, vi oe, .ref mK, vi rm, .ref mH, vi cn]), (mN, aI g 145 N), (mC, aI g 870 (cpC N Cg ca 145))]) (fun _ => rfl) (fun r_47 u_ p_47 => ?_)
        have p_47 : r_47 = 11 * y + x := p_47
        refine r_eq (y := (11 * y + x)) p_47 ?_
        refine r_iload_n C dX12_edge_50 3 rfl ?_
        refine r_iast C (ws' := [(hM, oB 11 [vi wi, vi hi, .ref mN, .ref mC, vi (min (cm + 1) 6), vi ((ca + 1) % 6), .ref mL, vi sc, vi qu, vi fp, .ref mT, vi lm, vi nw, vi nh, vi nr, .ref mF, .ref mR, .ref mD, .ref mA, vi ii, vi wo, vi wd, vi oe, .ref mK, vi rm, .ref mH, vi cn]), (mN, aI g 145 (zU N (11 * y + x) q)), (mC, aI g 870 (cpC N Cg ca 145))]) dX12_edge_51 1 rfl rfl (by omega) rfl ?_
        refine r_aload_n C dX12_edge_52 0 rfl ?_
        refine k_Vi C kv_X12_114 (fun sz => c_X12_edges l g hM wi hi mN mC (min (cm + 1) 6) ((ca + 1) % 6) mL sc qu fp mT lm nw nh nr mF mR mD mA ii wo wd oe mK rm mH cn (zU N (11 * y + x) q) sz) dX12_edge_53 rfl rfl rfl ⟨rfl, rfl⟩ 0 11 rfl rfl rfl [0, 1] rfl rfl (fun _ => rfl) (ws' := fun u_ => [(hM, oB 11 [vi wi, vi hi, .ref mN, .ref mC, vi (min (cm + 1) 6), vi ((ca + 1) % 6), .ref mL, vi sc, vi qu, vi fp, .ref mT, vi lm, vi nw, vi nh, vi nr, .ref mF, .ref mR, .ref mD, .ref mA, vi ii, vi wo, vi wd, vi oe, .ref mK, vi rm, .ref mH, vi cn]), (mN, aI g 145 (zU N (11 * y + x) q)), (mC, aI g 870 (cpC N Cg ca 145))]) (fun _ => rfl) (fun r_53 u_ p_53 => ?_)
        have p_53 : r_53 = sI (zU N (11 * y + x) q) 121 := p_53
        exact e_i C (zU N (11 * y + x) q, cpC N Cg ca 145, (ca + 1) % 6, min (cm + 1) 6) dX12_edge_56 (show (r_53 = -1 ∧ ¬ ((0 ≤ x ∧ x < wi ∧ 0 ≤ y ∧ y < hi) ∧ 0 ≤ q ∧ q ≤ 1) ∧ MSA N Cg ca cm (zU N (11 * y + x) q) (cpC N Cg ca 145) ((ca + 1) % 6) (min (cm + 1) 6)) ∨ (r_53 = -2 ∧ ((0 ≤ x ∧ x < wi ∧ 0 ≤ y ∧ y < hi) ∧ 0 ≤ q ∧ q ≤ 1) ∧ N (11 * y + x) = q ∧ MSA N Cg ca cm (zU N (11 * y + x) q) (cpC N Cg ca 145) ((ca + 1) % 6) (min (cm + 1) 6)) ∨ (((0 ≤ x ∧ x < wi ∧ 0 ≤ y ∧ y < hi) ∧ 0 ≤ q ∧ q ≤ 1) ∧ ¬ N (11 * y + x) = q ∧ (zU N (11 * y + x) q) = zU N (11 * y + x) q ∧ MCH N Cg ca cm (cpC N Cg ca 145) ((ca + 1) % 6) (min (cm + 1) 6) ∧ r_53 = sI (zU N (11 * y + x) q) 121) from Or.inr (Or.inr ⟨by omega, by omega, rfl, ⟨rfl, rfl, rfl⟩, p_53⟩)) rfl
      · skip
        refine r_bipush C dX12_edge_34 rfl ?_
        exact e_i C (N, Cg, ca, cm) dX12_edge_36 (show ((-2) = -1 ∧ ¬ ((0 ≤ x ∧ x < wi ∧ 0 ≤ y ∧ y < hi) ∧ 0 ≤ q ∧ q ≤ 1) ∧ MSA N Cg ca cm N Cg ca cm) ∨ ((-2) = -2 ∧ ((0 ≤ x ∧ x < wi ∧ 0 ≤ y ∧ y < hi) ∧ 0 ≤ q ∧ q ≤ 1) ∧ N (11 * y + x) = q ∧ MSA N Cg ca cm N Cg ca cm) ∨ (((0 ≤ x ∧ x < wi ∧ 0 ≤ y ∧ y < hi) ∧ 0 ≤ q ∧ q ≤ 1) ∧ ¬ N (11 * y + x) = q ∧ N = zU N (11 * y + x) q ∧ MCH N Cg ca cm Cg ca cm ∧ (-2) = sI N 121) from Or.inr (Or.inl ⟨rfl, by omega, by omega, ⟨rfl, rfl, rfl, rfl⟩⟩)) rfl
    · skip
      refine r_iconst C dX12_edge_18 ?_
      exact e_i C (N, Cg, ca, cm) dX12_edge_19 (show ((-1) = -1 ∧ ¬ ((0 ≤ x ∧ x < wi ∧ 0 ≤ y ∧ y < hi) ∧ 0 ≤ q ∧ q ≤ 1) ∧ MSA N Cg ca cm N Cg ca cm) ∨ ((-1) = -2 ∧ ((0 ≤ x ∧ x < wi ∧ 0 ≤ y ∧ y < hi) ∧ 0 ≤ q ∧ q ≤ 1) ∧ N (11 * y + x) = q ∧ MSA N Cg ca cm N Cg ca cm) ∨ (((0 ≤ x ∧ x < wi ∧ 0 ≤ y ∧ y < hi) ∧ 0 ≤ q ∧ q ≤ 1) ∧ ¬ N (11 * y + x) = q ∧ N = zU N (11 * y + x) q ∧ MCH N Cg ca cm Cg ca cm ∧ (-1) = sI N 121) from Or.inl ⟨rfl, by omega, ⟨rfl, rfl, rfl, rfl⟩⟩) rfl
set_option maxHeartbeats 1000000 in
set_option maxRecDepth 100000 in
theorem c_X12_dot (l : Launch) (g : Gx) (hM : Nat) (wi : Int) (hi : Int) (mN : Nat) (mC : Nat) (cm : Int) (ca : Int) (mL : Nat) (sc : Int) (qu : Int) (fp : Int) (mT : Nat) (lm : Int) (nw : Int) (nh : Int) (nr : Int) (mF : Nat) (mR : Nat) (mD : Nat) (mA : Nat) (ii : Int) (wo : Int) (wd : Int) (oe : Int) (mK : Nat) (rm : Int) (mH : Nat) (cn : Int) (N : Int → Int) (Cg : Int → Int) (x : Int) (y : Int) (hN : MOK wi hi N) (kca : 0 ≤ ca ∧ ca ≤ 5) (kcm : 0 ≤ cm ∧ cm ≤ 6) (bbx : -2147483648 ≤ x ∧ x ≤ 2147483647) (bby : -2147483648 ≤ y ∧ y ≤ 2147483647) (sz : Nat) : Met l yX12_dot (.code yX12_dot cX12_dot 3 (some .int) :: wsL_law) { frames := 1, cells := 0, slots := 0, locals := 23 } (PR g [.ref hM, vi x, vi y] [(hM, oB 11 [vi wi, vi hi, .ref mN, .ref mC, vi cm, vi ca, .ref mL, vi sc, vi qu, vi fp, .ref mT, vi lm, vi nw, vi nh, vi nr, .ref mF, .ref mR, .ref mD, .ref mA, vi ii, vi wo, vi wd, vi oe, .ref mK, vi rm, .ref mH, vi cn]), (mN, aI g 145 N), (mC, aI g 870 Cg)] sz) (PI (S := (Int → Int) × (Int → Int) × Int × Int) g (fun r u_ => (r = -1 ∧ ¬ (-5 ≤ x ∧ x ≤ 5 ∧ -5 ≤ y ∧ y ≤ 5) ∧ MSA N Cg ca cm u_.1 u_.2.1 u_.2.2.1 u_.2.2.2) ∨ (r = -2 ∧ (-5 ≤ x ∧ x ≤ 5 ∧ -5 ≤ y ∧ y ≤ 5) ∧ (∃ d : Int, 0 ≤ d ∧ d < N 141 ∧ N (121 + d) = x ∧ N (131 + d) = y) ∧ MSA N Cg ca cm u_.1 u_.2.1 u_.2.2.1 u_.2.2.2) ∨ ((-5 ≤ x ∧ x ≤ 5 ∧ -5 ≤ y ∧ y ≤ 5) ∧ (∀ d : Int, 0 ≤ d → d < N 141 → ¬ (N (121 + d) = x ∧ N (131 + d) = y)) ∧ ((N 141 = 10 ∧ r = -3 ∧ MSA N Cg ca cm u_.1 u_.2.1 u_.2.2.1 u_.2.2.2) ∨ (N 141 < 10 ∧ r = N 141 ∧ u_.1 = cnR N x y ∧ MCH N Cg ca cm u_.2.1 u_.2.2.1 u_.2.2.2)))) (fun u_ => [(hM, oB 11 [vi wi, vi hi, .ref mN, .ref mC, vi u_.2.2.2, vi u_.2.2.1, .ref mL, vi sc, vi qu, vi fp, .ref mT, vi lm, vi nw, vi nh, vi nr, .ref mF, .ref mR, .ref mD, .ref mA, vi ii, vi wo, vi wd, vi oe, .ref mK, vi rm, .ref mH, vi cn]), (mN, aI g 145 u_.1), (mC, aI g 870 u_.2.1)]) [(hM, oB 11 [vi wi, vi hi, .ref mN, .ref mC, vi cm, vi ca, .ref mL, vi sc, vi qu, vi fp, .ref mT, vi lm, vi nw, vi nh, vi nr, .ref mF, .ref mR, .ref mD, .ref mA, vi ii, vi wo, vi wd, vi oe, .ref mK, vi rm, .ref mH, vi cn]), (mN, aI g 145 N), (mC, aI g 870 Cg)] sz) 0 0 (va_A [(hM, oB 11 [vi wi, vi hi, .ref mN, .ref mC, vi cm, vi ca, .ref mL, vi sc, vi qu, vi fp, .ref mT, vi lm, vi nw, vi nh, vi nr, .ref mF, .ref mR, .ref mD, .ref mA, vi ii, vi wo, vi wd, vi oe, .ref mK, vi rm, .ref mH, vi cn]), (mN, aI g 145 N), (mC, aI g 870 Cg)] sz) := by
  refine meet (own := RX12) rfl (plainFor_of_name (by decide +kernel)) rfl (fun p_ e_ s_ m_ args_ below_ meth_ c_ C hnm => ?_)
  refine r_at (ws' := [(hM, oB 11 [vi wi, vi hi, .ref mN, .ref mC, vi cm, vi ca, .ref mL, vi sc, vi qu, vi fp, .ref mT, vi lm, vi nw, vi nh, vi nr, .ref mF, .ref mR, .ref mD, .ref mA, vi ii, vi wo, vi wd, vi oe, .ref mK, vi rm, .ref mH, vi cn]), (mN, aI g 145 N), (mC, aI g 870 Cg)]) (lv' := [(0, .ref hM), (1, vi x), (2, vi y)]) rfl rfl ?_
  obtain ⟨nW, nH, n1, nO, nn, nX, nY, nM, nC, nT⟩ := id hN
  refine r_iload_n C dX12_dot_0 1 rfl ?_
  refine r_bipush C dX12_dot_1 rfl ?_
  refine r_iconst C dX12_dot_3 ?_
  refine k_Si C ks_X12_58 (fun sz => c_X12_in l g x (-5) 5 (by omega) (by omega) (by omega) sz) dX12_dot_4 rfl rfl rfl ⟨rfl, rfl⟩ [] rfl rfl (fun _ => rfl) (ws' := fun u_ => [(hM, oB 11 [vi wi, vi hi, .ref mN, .ref mC, vi cm, vi ca, .ref mL, vi sc, vi qu, vi fp, .ref mT, vi lm, vi nw, vi nh, vi nr, .ref mF, .ref mR, .ref mD, .ref mA, vi ii, vi wo, vi wd, vi oe, .ref mK, vi rm, .ref mH, vi cn]), (mN, aI g 145 N), (mC, aI g 870 Cg)]) (fun _ => rfl) (fun r_4 u_ p_4 => ?_)
  have p_4 : (r_4 = 1 ∧ (-5) ≤ x ∧ x ≤ 5) ∨ (r_4 = 0 ∧ ¬ ((-5) ≤ x ∧ x ≤ 5)) := p_4
  refine r_if_eq C 20 dX12_dot_7 rfl (by omega) (fun c_1 => ?_) (fun c_1 => ?_)
  · skip
    refine r_iconst C dX12_dot_20 ?_
    exact e_i C (N, Cg, ca, cm) dX12_dot_21 (show ((-1) = -1 ∧ ¬ (-5 ≤ x ∧ x ≤ 5 ∧ -5 ≤ y ∧ y ≤ 5) ∧ MSA N Cg ca cm N Cg ca cm) ∨ ((-1) = -2 ∧ (-5 ≤ x ∧ x ≤ 5 ∧ -5 ≤ y ∧ y ≤ 5) ∧ (∃ d : Int, 0 ≤ d ∧ d < N 141 ∧ N (121 + d) = x ∧ N (131 + d) = y) ∧ MSA N Cg ca cm N Cg ca cm) ∨ ((-5 ≤ x ∧ x ≤ 5 ∧ -5 ≤ y ∧ y ≤ 5) ∧ (∀ d : Int, 0 ≤ d → d < N 141 → ¬ (N (121 + d) = x ∧ N (131 + d) = y)) ∧ ((N 141 = 10 ∧ (-1) = -3 ∧ MSA N Cg ca cm N Cg ca cm) ∨ (N 141 < 10 ∧ (-1) = N 141 ∧ N = cnR N x y ∧ MCH N Cg ca cm Cg ca cm))) from Or.inl ⟨rfl, by omega, ⟨rfl, rfl, rfl, rfl⟩⟩) rfl
  · skip
    refine r_iload_n C dX12_dot_10 2 rfl ?_
    refine r_bipush C dX12_dot_11 rfl ?_
    refine r_iconst C dX12_dot_13 ?_
    refine k_Si C ks_X12_58 (fun sz => c_X12_in l g y (-5) 5 (by omega) (by omega) (by omega) sz) dX12_dot_14 rfl rfl rfl ⟨rfl, rfl⟩ [] rfl rfl (fun _ => rfl) (ws' := fun u_ => [(hM, oB 11 [vi wi, vi hi, .ref mN, .ref mC, vi cm, vi ca, .ref mL, vi sc, vi qu, vi fp, .ref mT, vi lm, vi nw, vi nh, vi nr, .ref mF, .ref mR, .ref mD, .ref mA, vi ii, vi wo, vi wd, vi oe, .ref mK, vi rm, .ref mH, vi cn]), (mN, aI g 145 N), (mC, aI g 870 Cg)]) (fun _ => rfl) (fun r_14 u_ p_14 => ?_)
    have p_14 : (r_14 = 1 ∧ (-5) ≤ y ∧ y ≤ 5) ∨ (r_14 = 0 ∧ ¬ ((-5) ≤ y ∧ y ≤ 5)) := p_14
    refine r_if_ne C 22 dX12_dot_17 rfl (by omega) (fun c_2 => ?_) (fun c_2 => ?_)
    · skip
      refine r_aload_n C dX12_dot_22 0 rfl ?_
      refine gf_X12_7 C dX12_dot_23 0 rfl rfl ?_
      have hin : -5 ≤ x ∧ x ≤ 5 ∧ -5 ≤ y ∧ y ≤ 5 := by omega
      refine r_iload_n C dX12_dot_26 1 rfl ?_
      refine r_iload_n C dX12_dot_27 2 rfl ?_
      refine k_Si C ks_X12_81 (fun sz => c_X12_dotAt l g mN N x y (by omega) nX nY (by omega) (by omega) sz) dX12_dot_28 rfl rfl rfl ⟨rfl, rfl⟩ [1] rfl rfl (fun _ => rfl) (ws' := fun u_ => [(hM, oB 11 [vi wi, vi hi, .ref mN, .ref mC, vi cm, vi ca, .ref mL, vi sc, vi qu, vi fp, .ref mT, vi lm, vi nw, vi nh, vi nr, .ref mF, .ref mR, .ref mD, .ref mA, vi ii, vi wo, vi wd, vi oe, .ref mK, vi rm, .ref mH, vi cn]), (mN, aI g 145 N), (mC, aI g 870 Cg)]) (fun _ => rfl) (fun r_28 u_ p_28 => ?_)
      have p_28 : (r_28 = -4 ∧ ∀ d : Int, 0 ≤ d → d < N 141 → ¬ (N (121 + d) = x ∧ N (131 + d) = y)) ∨ (0 ≤ r_28 ∧ r_28 ≤ 10 ∧ ∃ d : Int, 0 ≤ d ∧ d < N 141 ∧ N (121 + d) = x ∧ N (131 + d) = y) := p_28
      have r28 : r_28 = -4 ∨ 0 ≤ r_28 ∧ r_28 ≤ 10 := by rcases p_28 with z | z; exact Or.inl z.1; exact Or.inr ⟨z.1, z.2.1⟩
      have p28 := p_28
      clear p_28
      refine r_bipush C dX12_dot_31 rfl ?_
      refine r_icmp_eq C 39 dX12_dot_33 rfl (by clear p28; omega) (fun c_3 => ?_) (fun c_3 => ?_)
      · skip
        refine r_aload_n C dX12_dot_39 0 rfl ?_
        refine gf_X12_7 C dX12_dot_40 0 rfl rfl ?_
        refine r_sipush C dX12_dot_43 rfl ?_
        refine r_iald C dX12_dot_46 1 rfl rfl (by omega) ?_
        refine r_bipush C dX12_dot_47 rfl ?_
        refine r_icmp_ne C 55 dX12_dot_49 rfl (by clear p28; omega) (fun c_4 => ?_) (fun c_4 => ?_)
        · skip
          refine r_aload_n C dX12_dot_55 0 rfl ?_
          refine k_Vv C kv_X12_124 (fun sz => c_X12_remembers l g hM wi hi mN mC cm ca mL sc qu fp mT lm nw nh nr mF mR mD mA ii wo wd oe mK rm mH cn N Cg kca kcm sz) dX12_dot_56 rfl rfl rfl ⟨rfl, rfl⟩ 0 11 rfl rfl rfl [0, 1, 2] rfl rfl (fun _ => rfl) (ws' := fun u_ => [(hM, oB 11 [vi wi, vi hi, .ref mN, .ref mC, vi (min (cm + 1) 6), vi ((ca + 1) % 6), .ref mL, vi sc, vi qu, vi fp, .ref mT, vi lm, vi nw, vi nh, vi nr, .ref mF, .ref mR, .ref mD, .ref mA, vi ii, vi wo, vi wd, vi oe, .ref mK, vi rm, .ref mH, vi cn]), (mN, aI g 145 N), (mC, aI g 870 (cpC N Cg ca 145))]) (fun _ => rfl) (fun u_ p_56 => ?_)
          refine r_aload_n C dX12_dot_59 0 rfl ?_
          refine gf_X12_7 C dX12_dot_60 0 rfl rfl ?_
          refine r_iload_n C dX12_dot_63 1 rfl ?_
          refine r_iload_n C dX12_dot_64 2 rfl ?_
          refine k_Sv C ks_X12_54 (fun sz => c_X12_comesDot l g mN N x y (by clear p28; omega) sz) dX12_dot_65 rfl rfl rfl ⟨rfl, rfl⟩ [1] rfl rfl (fun _ => rfl) (ws' := fun u_ => [(hM, oB 11 [vi wi, vi hi, .ref mN, .ref mC, vi (min (cm + 1) 6), vi ((ca + 1) % 6), .ref mL, vi sc, vi qu, vi fp, .ref mT, vi lm, vi nw, vi nh, vi nr, .ref mF, .ref mR, .ref mD, .ref mA, vi ii, vi wo, vi wd, vi oe, .ref mK, vi rm, .ref mH, vi cn]), (mN, aI g 145 (cnR N x y)), (mC, aI g 870 (cpC N Cg ca 145))]) (fun _ => rfl) (fun u_ p_65 => ?_)
          refine r_aload_n C dX12_dot_68 0 rfl ?_
          refine gf_X12_7 C dX12_dot_69 0 rfl rfl ?_
          refine r_sipush C dX12_dot_72 rfl ?_
          refine r_iald C dX12_dot_75 1 rfl rfl (by omega) ?_
          refine r_eq (y := (N 141 + 1)) cnR_n ?_
          refine r_iconst C dX12_dot_76 ?_
          refine r_isub C dX12_dot_77 ?_
          exact e_i C (cnR N x y, cpC N Cg ca 145, (ca + 1) % 6, min (cm + 1) 6) dX12_dot_78 (show (((N 141 + 1) - 1) = -1 ∧ ¬ (-5 ≤ x ∧ x ≤ 5 ∧ -5 ≤ y ∧ y ≤ 5) ∧ MSA N Cg ca cm (cnR N x y) (cpC N Cg ca 145) ((ca + 1) % 6) (min (cm + 1) 6)) ∨ (((N 141 + 1) - 1) = -2 ∧ (-5 ≤ x ∧ x ≤ 5 ∧ -5 ≤ y ∧ y ≤ 5) ∧ (∃ d : Int, 0 ≤ d ∧ d < N 141 ∧ N (121 + d) = x ∧ N (131 + d) = y) ∧ MSA N Cg ca cm (cnR N x y) (cpC N Cg ca 145) ((ca + 1) % 6) (min (cm + 1) 6)) ∨ ((-5 ≤ x ∧ x ≤ 5 ∧ -5 ≤ y ∧ y ≤ 5) ∧ (∀ d : Int, 0 ≤ d → d < N 141 → ¬ (N (121 + d) = x ∧ N (131 + d) = y)) ∧ ((N 141 = 10 ∧ ((N 141 + 1) - 1) = -3 ∧ MSA N Cg ca cm (cnR N x y) (cpC N Cg ca 145) ((ca + 1) % 6) (min (cm + 1) 6)) ∨ (N 141 < 10 ∧ ((N 141 + 1) - 1) = N 141 ∧ (cnR N x y) = cnR N x y ∧ MCH N Cg ca cm (cpC N Cg ca 145) ((ca + 1) % 6) (min (cm + 1) 6)))) from Or.inr (Or.inr ⟨hin, by rcases p28 with z | z; exact z.2; omega, Or.inr ⟨by clear p28; omega, by clear p28; omega, rfl, ⟨rfl, rfl, rfl⟩⟩⟩)) rfl
        · skip
          refine r_bipush C dX12_dot_52 rfl ?_
          exact e_i C (N, Cg, ca, cm) dX12_dot_54 (show ((-3) = -1 ∧ ¬ (-5 ≤ x ∧ x ≤ 5 ∧ -5 ≤ y ∧ y ≤ 5) ∧ MSA N Cg ca cm N Cg ca cm) ∨ ((-3) = -2 ∧ (-5 ≤ x ∧ x ≤ 5 ∧ -5 ≤ y ∧ y ≤ 5) ∧ (∃ d : Int, 0 ≤ d ∧ d < N 141 ∧ N (121 + d) = x ∧ N (131 + d) = y) ∧ MSA N Cg ca cm N Cg ca cm) ∨ ((-5 ≤ x ∧ x ≤ 5 ∧ -5 ≤ y ∧ y ≤ 5) ∧ (∀ d : Int, 0 ≤ d → d < N 141 → ¬ (N (121 + d) = x ∧ N (131 + d) = y)) ∧ ((N 141 = 10 ∧ (-3) = -3 ∧ MSA N Cg ca cm N Cg ca cm) ∨ (N 141 < 10 ∧ (-3) = N 141 ∧ N = cnR N x y ∧ MCH N Cg ca cm Cg ca cm))) from Or.inr (Or.inr ⟨hin, by rcases p28 with z | z; exact z.2; omega, Or.inl ⟨by clear p28; omega, rfl, ⟨rfl, rfl, rfl, rfl⟩⟩⟩)) rfl
      · skip
        refine r_bipush C dX12_dot_36 rfl ?_
        exact e_i C (N, Cg, ca, cm) dX12_dot_38 (show ((-2) = -1 ∧ ¬ (-5 ≤ x ∧ x ≤ 5 ∧ -5 ≤ y ∧ y ≤ 5) ∧ MSA N Cg ca cm N Cg ca cm) ∨ ((-2) = -2 ∧ (-5 ≤ x ∧ x ≤ 5 ∧ -5 ≤ y ∧ y ≤ 5) ∧ (∃ d : Int, 0 ≤ d ∧ d < N 141 ∧ N (121 + d) = x ∧ N (131 + d) = y) ∧ MSA N Cg ca cm N Cg ca cm) ∨ ((-5 ≤ x ∧ x ≤ 5 ∧ -5 ≤ y ∧ y ≤ 5) ∧ (∀ d : Int, 0 ≤ d → d < N 141 → ¬ (N (121 + d) = x ∧ N (131 + d) = y)) ∧ ((N 141 = 10 ∧ (-2) = -3 ∧ MSA N Cg ca cm N Cg ca cm) ∨ (N 141 < 10 ∧ (-2) = N 141 ∧ N = cnR N x y ∧ MCH N Cg ca cm Cg ca cm))) from Or.inr (Or.inl ⟨rfl, hin, by rcases p28 with z | z; omega; exact z.2.2, ⟨rfl, rfl, rfl, rfl⟩⟩)) rfl
    · skip
      refine r_iconst C dX12_dot_20 ?_
      exact e_i C (N, Cg, ca, cm) dX12_dot_21 (show ((-1) = -1 ∧ ¬ (-5 ≤ x ∧ x ≤ 5 ∧ -5 ≤ y ∧ y ≤ 5) ∧ MSA N Cg ca cm N Cg ca cm) ∨ ((-1) = -2 ∧ (-5 ≤ x ∧ x ≤ 5 ∧ -5 ≤ y ∧ y ≤ 5) ∧ (∃ d : Int, 0 ≤ d ∧ d < N 141 ∧ N (121 + d) = x ∧ N (131 + d) = y) ∧ MSA N Cg ca cm N Cg ca cm) ∨ ((-5 ≤ x ∧ x ≤ 5 ∧ -5 ≤ y ∧ y ≤ 5) ∧ (∀ d : Int, 0 ≤ d → d < N 141 → ¬ (N (121 + d) = x ∧ N (131 + d) = y)) ∧ ((N 141 = 10 ∧ (-1) = -3 ∧ MSA N Cg ca cm N Cg ca cm) ∨ (N 141 < 10 ∧ (-1) = N 141 ∧ N = cnR N x y ∧ MCH N Cg ca cm Cg ca cm))) from Or.inl ⟨rfl, by omega, ⟨rfl, rfl, rfl, rfl⟩⟩) rfl
set_option maxHeartbeats 1000000 in
set_option maxRecDepth 100000 in
theorem c_X12_isDot (l : Launch) (g : Gx) (hM : Nat) (wi : Int) (hi : Int) (mN : Nat) (mC : Nat) (cm : Int) (ca : Int) (mL : Nat) (sc : Int) (qu : Int) (fp : Int) (mT : Nat) (lm : Int) (nw : Int) (nh : Int) (nr : Int) (mF : Nat) (mR : Nat) (mD : Nat) (mA : Nat) (ii : Int) (wo : Int) (wd : Int) (oe : Int) (mK : Nat) (rm : Int) (mH : Nat) (cn : Int) (N : Int → Int) (d : Int) (kn : 1 ≤ N 141 ∧ N 141 ≤ 10) (bbd : -2147483648 ≤ d ∧ d ≤ 2147483647) (sz : Nat) : Met l yX12_isDot (.code yX12_isDot cX12_isDot 2 (some .boolean) :: wsL_law) { frames := 1, cells := 0, slots := 0, locals := 22 } (PR g [.ref hM, vi d] [(hM, oB 11 [vi wi, vi hi, .ref mN, .ref mC, vi cm, vi ca, .ref mL, vi sc, vi qu, vi fp, .ref mT, vi lm, vi nw, vi nh, vi nr, .ref mF, .ref mR, .ref mD, .ref mA, vi ii, vi wo, vi wd, vi oe, .ref mK, vi rm, .ref mH, vi cn]), (mN, aI g 145 N)] sz) (PI (S := Unit) g (fun r u_ => (r = 1 ∧ 0 ≤ d ∧ d < N 141) ∨ (r = 0 ∧ ¬ (0 ≤ d ∧ d < N 141))) (fun u_ => [(hM, oB 11 [vi wi, vi hi, .ref mN, .ref mC, vi cm, vi ca, .ref mL, vi sc, vi qu, vi fp, .ref mT, vi lm, vi nw, vi nh, vi nr, .ref mF, .ref mR, .ref mD, .ref mA, vi ii, vi wo, vi wd, vi oe, .ref mK, vi rm, .ref mH, vi cn]), (mN, aI g 145 N)]) [(hM, oB 11 [vi wi, vi hi, .ref mN, .ref mC, vi cm, vi ca, .ref mL, vi sc, vi qu, vi fp, .ref mT, vi lm, vi nw, vi nh, vi nr, .ref mF, .ref mR, .ref mD, .ref mA, vi ii, vi wo, vi wd, vi oe, .ref mK, vi rm, .ref mH, vi cn]), (mN, aI g 145 N)] sz) 0 0 (va_A [(hM, oB 11 [vi wi, vi hi, .ref mN, .ref mC, vi cm, vi ca, .ref mL, vi sc, vi qu, vi fp, .ref mT, vi lm, vi nw, vi nh, vi nr, .ref mF, .ref mR, .ref mD, .ref mA, vi ii, vi wo, vi wd, vi oe, .ref mK, vi rm, .ref mH, vi cn]), (mN, aI g 145 N)] sz) := by
  refine meet (own := RX12) rfl (plainFor_of_name (by decide +kernel)) rfl (fun p_ e_ s_ m_ args_ below_ meth_ c_ C hnm => ?_)
  refine r_at (ws' := [(hM, oB 11 [vi wi, vi hi, .ref mN, .ref mC, vi cm, vi ca, .ref mL, vi sc, vi qu, vi fp, .ref mT, vi lm, vi nw, vi nh, vi nr, .ref mF, .ref mR, .ref mD, .ref mA, vi ii, vi wo, vi wd, vi oe, .ref mK, vi rm, .ref mH, vi cn]), (mN, aI g 145 N)]) (lv' := [(0, .ref hM), (1, vi d)]) rfl rfl ?_
  refine r_iload_n C dX12_isDot_0 1 rfl ?_
  refine r_iconst C dX12_isDot_1 ?_
  refine r_aload_n C dX12_isDot_2 0 rfl ?_
  refine gf_X12_7 C dX12_isDot_3 0 rfl rfl ?_
  refine r_sipush C dX12_isDot_6 rfl ?_
  refine r_iald C dX12_isDot_9 1 rfl rfl (by omega) ?_
  refine r_iconst C dX12_isDot_10 ?_
  refine r_isub C dX12_isDot_11 ?_
  refine k_Si C ks_X12_58 (fun sz => c_X12_in l g d 0 ((N 141) - 1) (by omega) (by omega) (by omega) sz) dX12_isDot_12 rfl rfl rfl ⟨rfl, rfl⟩ [] rfl rfl (fun _ => rfl) (ws' := fun u_ => [(hM, oB 11 [vi wi, vi hi, .ref mN, .ref mC, vi cm, vi ca, .ref mL, vi sc, vi qu, vi fp, .ref mT, vi lm, vi nw, vi nh, vi nr, .ref mF, .ref mR, .ref mD, .ref mA, vi ii, vi wo, vi wd, vi oe, .ref mK, vi rm, .ref mH, vi cn]), (mN, aI g 145 N)]) (fun _ => rfl) (fun r_12 u_ p_12 => ?_)
  have p_12 : (r_12 = 1 ∧ 0 ≤ d ∧ d ≤ ((N 141) - 1)) ∨ (r_12 = 0 ∧ ¬ (0 ≤ d ∧ d ≤ ((N 141) - 1))) := p_12
  exact e_z C () dX12_isDot_15 (by omega) (show (r_12 = 1 ∧ 0 ≤ d ∧ d < N 141) ∨ (r_12 = 0 ∧ ¬ (0 ≤ d ∧ d < N 141)) from by omega) rfl
set_option maxHeartbeats 1000000 in
set_option maxRecDepth 100000 in
theorem c_X12_drop (l : Launch) (g : Gx) (hM : Nat) (wi : Int) (hi : Int) (mN : Nat) (mC : Nat) (cm : Int) (ca : Int) (mL : Nat) (sc : Int) (qu : Int) (fp : Int) (mT : Nat) (lm : Int) (nw : Int) (nh : Int) (nr : Int) (mF : Nat) (mR : Nat) (mD : Nat) (mA : Nat) (ii : Int) (wo : Int) (wd : Int) (oe : Int) (mK : Nat) (rm : Int) (mH : Nat) (cn : Int) (N : Int → Int) (Cg : Int → Int) (d : Int) (hN : MOK wi hi N) (kca : 0 ≤ ca ∧ ca ≤ 5) (kcm : 0 ≤ cm ∧ cm ≤ 6) (bbd : -2147483648 ≤ d ∧ d ≤ 2147483647) (sz : Nat) : Met l yX12_drop (.code yX12_drop cX12_drop 3 (some .int) :: wsL_law) { frames := 2, cells := 0, slots := 0, locals := 43 } (PR g [.ref hM, vi d] [(hM, oB 11 [vi wi, vi hi, .ref mN, .ref mC, vi cm, vi ca, .ref mL, vi sc, vi qu, vi fp, .ref mT, vi lm, vi nw, vi nh, vi nr, .ref mF, .ref mR, .ref mD, .ref mA, vi ii, vi wo, vi wd, vi oe, .ref mK, vi rm, .ref mH, vi cn]), (mN, aI g 145 N), (mC, aI g 870 Cg)] sz) (PI (S := (Int → Int) × (Int → Int) × Int × Int) g (fun r u_ => (r = -1 ∧ ¬ (0 ≤ d ∧ d < N 141) ∧ MSA N Cg ca cm u_.1 u_.2.1 u_.2.2.1 u_.2.2.2) ∨ (r = -2 ∧ (0 ≤ d ∧ d < N 141) ∧ N 141 = 1 ∧ MSA N Cg ca cm u_.1 u_.2.1 u_.2.2.1 u_.2.2.2) ∨ ((0 ≤ d ∧ d < N 141) ∧ ¬ N 141 = 1 ∧ r = N 141 - 1 ∧ u_.1 = drN N d (N 141 - 1) ∧ MCH N Cg ca cm u_.2.1 u_.2.2.1 u_.2.2.2)) (fun u_ => [(hM, oB 11 [vi wi, vi hi, .ref mN, .ref mC, vi u_.2.2.2, vi u_.2.2.1, .ref mL, vi sc, vi qu, vi fp, .ref mT, vi lm, vi nw, vi nh, vi nr, .ref mF, .ref mR, .ref mD, .ref mA, vi ii, vi wo, vi wd, vi oe, .ref mK, vi rm, .ref mH, vi cn]), (mN, aI g 145 u_.1), (mC, aI g 870 u_.2.1)]) [(hM, oB 11 [vi wi, vi hi, .ref mN, .ref mC, vi cm, vi ca, .ref mL, vi sc, vi qu, vi fp, .ref mT, vi lm, vi nw, vi nh, vi nr, .ref mF, .ref mR, .ref mD, .ref mA, vi ii, vi wo, vi wd, vi oe, .ref mK, vi rm, .ref mH, vi cn]), (mN, aI g 145 N), (mC, aI g 870 Cg)] sz) 0 0 (va_A [(hM, oB 11 [vi wi, vi hi, .ref mN, .ref mC, vi cm, vi ca, .ref mL, vi sc, vi qu, vi fp, .ref mT, vi lm, vi nw, vi nh, vi nr, .ref mF, .ref mR, .ref mD, .ref mA, vi ii, vi wo, vi wd, vi oe, .ref mK, vi rm, .ref mH, vi cn]), (mN, aI g 145 N), (mC, aI g 870 Cg)] sz) := by
  refine meet (own := RX12) rfl (plainFor_of_name (by decide +kernel)) rfl (fun p_ e_ s_ m_ args_ below_ meth_ c_ C hnm => ?_)
  refine r_at (ws' := [(hM, oB 11 [vi wi, vi hi, .ref mN, .ref mC, vi cm, vi ca, .ref mL, vi sc, vi qu, vi fp, .ref mT, vi lm, vi nw, vi nh, vi nr, .ref mF, .ref mR, .ref mD, .ref mA, vi ii, vi wo, vi wd, vi oe, .ref mK, vi rm, .ref mH, vi cn]), (mN, aI g 145 N), (mC, aI g 870 Cg)]) (lv' := [(0, .ref hM), (1, vi d)]) rfl rfl ?_
  obtain ⟨nW, nH, n1, nO, nn, nX, nY, nM, nC, nT⟩ := id hN
  refine r_aload_n C dX12_drop_0 0 rfl ?_
  refine r_iload_n C dX12_drop_1 1 rfl ?_
  refine k_Vi C kv_X12_127 (fun sz => c_X12_isDot l g hM wi hi mN mC cm ca mL sc qu fp mT lm nw nh nr mF mR mD mA ii wo wd oe mK rm mH cn N d nn (by omega) sz) dX12_drop_2 rfl rfl rfl ⟨rfl, rfl⟩ 0 11 rfl rfl rfl [0, 1] rfl rfl (fun _ => rfl) (ws' := fun u_ => [(hM, oB 11 [vi wi, vi hi, .ref mN, .ref mC, vi cm, vi ca, .ref mL, vi sc, vi qu, vi fp, .ref mT, vi lm, vi nw, vi nh, vi nr, .ref mF, .ref mR, .ref mD, .ref mA, vi ii, vi wo, vi wd, vi oe, .ref mK, vi rm, .ref mH, vi cn]), (mN, aI g 145 N), (mC, aI g 870 Cg)]) (fun _ => rfl) (fun r_2 u_ p_2 => ?_)
  have p_2 : (r_2 = 1 ∧ 0 ≤ d ∧ d < N 141) ∨ (r_2 = 0 ∧ ¬ (0 ≤ d ∧ d < N 141)) := p_2
  refine r_if_ne C 10 dX12_drop_5 rfl (by omega) (fun c_1 => ?_) (fun c_1 => ?_)
  · skip
    refine r_aload_n C dX12_drop_10 0 rfl ?_
    refine gf_X12_7 C dX12_drop_11 0 rfl rfl ?_
    refine r_sipush C dX12_drop_14 rfl ?_
    refine r_iald C dX12_drop_17 1 rfl rfl (by omega) ?_
    refine r_iconst C dX12_drop_18 ?_
    refine r_icmp_ne C 25 dX12_drop_19 rfl (by omega) (fun c_2 => ?_) (fun c_2 => ?_)
    · skip
      refine r_aload_n C dX12_drop_25 0 rfl ?_
      refine k_Vv C kv_X12_124 (fun sz => c_X12_remembers l g hM wi hi mN mC cm ca mL sc qu fp mT lm nw nh nr mF mR mD mA ii wo wd oe mK rm mH cn N Cg kca kcm sz) dX12_drop_26 rfl rfl rfl ⟨rfl, rfl⟩ 0 11 rfl rfl rfl [0, 1, 2] rfl rfl (fun _ => rfl) (ws' := fun u_ => [(hM, oB 11 [vi wi, vi hi, .ref mN, .ref mC, vi (min (cm + 1) 6), vi ((ca + 1) % 6), .ref mL, vi sc, vi qu, vi fp, .ref mT, vi lm, vi nw, vi nh, vi nr, .ref mF, .ref mR, .ref mD, .ref mA, vi ii, vi wo, vi wd, vi oe, .ref mK, vi rm, .ref mH, vi cn]), (mN, aI g 145 N), (mC, aI g 870 (cpC N Cg ca 145))]) (fun _ => rfl) (fun u_ p_26 => ?_)
      refine r_aload_n C dX12_drop_29 0 rfl ?_
      refine gf_X12_7 C dX12_drop_30 0 rfl rfl ?_
      refine r_sipush C dX12_drop_33 rfl ?_
      refine r_dup2 C dX12_drop_36 rfl rfl ?_
      refine r_iald C dX12_drop_37 1 rfl rfl (by omega) ?_
      refine r_iconst C dX12_drop_38 ?_
      refine r_isub C dX12_drop_39 ?_
      refine r_iast C (ws' := [(hM, oB 11 [vi wi, vi hi, .ref mN, .ref mC, vi (min (cm + 1) 6), vi ((ca + 1) % 6), .ref mL, vi sc, vi qu, vi fp, .ref mT, vi lm, vi nw, vi nh, vi nr, .ref mF, .ref mR, .ref mD, .ref mA, vi ii, vi wo, vi wd, vi oe, .ref mK, vi rm, .ref mH, vi cn]), (mN, aI g 145 (zU N 141 ((N 141) - 1))), (mC, aI g 870 (cpC N Cg ca 145))]) dX12_drop_40 1 rfl rfl (by omega) rfl ?_
      refine r_iload_n C dX12_drop_41 1 rfl ?_
      refine r_istore_n C (lv' := [(2, vi d), (0, .ref hM), (1, vi d)]) dX12_drop_42 rfl rfl ?_
      refine r_lv (lv' := [(0, .ref hM), (1, vi d), (2, vi d)]) [1, 2, 0] rfl ?_
      refine r_loop (σ := Int × (Int → Int)) (fun z_ => (d ≤ z_.1 ∧ z_.1 ≤ N 141 - 1) ∧ (z_.2 = drN N d z_.1)) (fun z_ => N 141 - 1 - z_.1) (fun z_ => [(hM, oB 11 [vi wi, vi hi, .ref mN, .ref mC, vi (min (cm + 1) 6), vi ((ca + 1) % 6), .ref mL, vi sc, vi qu, vi fp, .ref mT, vi lm, vi nw, vi nh, vi nr, .ref mF, .ref mR, .ref mD, .ref mA, vi ii, vi wo, vi wd, vi oe, .ref mK, vi rm, .ref mH, vi cn]), (mN, aI g 145 z_.2), (mC, aI g 870 (cpC N Cg ca 145))]) (fun z_ => [(0, .ref hM), (1, vi d), (2, vi z_.1)]) (fun z_ hz => ?_) (fun z_ hz ih_43 => ?_) (((d, zU N 141 ((N 141) - 1)) : Int × (Int → Int))) ?_
      · obtain ⟨j, P⟩ := z_
        obtain ⟨jj, jP⟩ := hz
        have jj : d ≤ j ∧ j ≤ N 141 - 1 := jj
        have jP : P = drN N d j := jP
        show (0 : Int) ≤ N 141 - 1 - j
        omega
      rotate_left
      · show (d ≤ d ∧ d ≤ N 141 - 1) ∧ ((zU N 141 ((N 141) - 1)) = drN N d d)
        exact ⟨(by omega), (drN_0 N d)⟩
      obtain ⟨j, P⟩ := z_
      obtain ⟨jj, jP⟩ := hz
      have jj : d ≤ j ∧ j ≤ N 141 - 1 := jj
      have jP : P = drN N d j := jP
      refine r_at (ws' := [(hM, oB 11 [vi wi, vi hi, .ref mN, .ref mC, vi (min (cm + 1) 6), vi ((ca + 1) % 6), .ref mL, vi sc, vi qu, vi fp, .ref mT, vi lm, vi nw, vi nh, vi nr, .ref mF, .ref mR, .ref mD, .ref mA, vi ii, vi wo, vi wd, vi oe, .ref mK, vi rm, .ref mH, vi cn]), (mN, aI g 145 P), (mC, aI g 870 (cpC N Cg ca 145))]) (lv' := [(0, .ref hM), (1, vi d), (2, vi j)]) rfl rfl ?_
      have j141 : P 141 = N 141 - 1 := by rw [jP]; exact if_pos rfl
      refine r_iload_n C dX12_drop_43 2 rfl ?_
      refine r_aload_n C dX12_drop_44 0 rfl ?_
      refine gf_X12_7 C dX12_drop_45 0 rfl rfl ?_
      refine r_sipush C dX12_drop_48 rfl ?_
      refine r_iald C dX12_drop_51 1 rfl rfl (by omega) ?_
      refine r_icmp_ge C 103 dX12_drop_52 rfl (by omega) (fun c_3 => ?_) (fun c_3 => ?_)
      · skip
        have hj9 : j = N 141 - 1 := by omega
        refine r_ext C (f' := (drN N d (N 141 - 1))) (ws' := [(hM, oB 11 [vi wi, vi hi, .ref mN, .ref mC, vi (min (cm + 1) 6), vi ((ca + 1) % 6), .ref mL, vi sc, vi qu, vi fp, .ref mT, vi lm, vi nw, vi nh, vi nr, .ref mF, .ref mR, .ref mD, .ref mA, vi ii, vi wo, vi wd, vi oe, .ref mK, vi rm, .ref mH, vi cn]), (mN, aI g 145 (drN N d (N 141 - 1))), (mC, aI g 870 (cpC N Cg ca 145))]) 1 rfl (fun k h0 h1 => by rw [jP, hj9]) rfl ?_
        refine r_aload_n C dX12_drop_103 0 rfl ?_
        refine gf_X12_7 C dX12_drop_104 0 rfl rfl ?_
        refine r_sipush C dX12_drop_107 rfl ?_
        refine r_iald C dX12_drop_110 1 rfl rfl (by omega) ?_
        refine r_eq (y := (N 141 - 1)) (if_pos rfl) ?_
        exact e_i C (drN N d (N 141 - 1), cpC N Cg ca 145, (ca + 1) % 6, min (cm + 1) 6) dX12_drop_111 (show ((N 141 - 1) = -1 ∧ ¬ (0 ≤ d ∧ d < N 141) ∧ MSA N Cg ca cm (drN N d (N 141 - 1)) (cpC N Cg ca 145) ((ca + 1) % 6) (min (cm + 1) 6)) ∨ ((N 141 - 1) = -2 ∧ (0 ≤ d ∧ d < N 141) ∧ N 141 = 1 ∧ MSA N Cg ca cm (drN N d (N 141 - 1)) (cpC N Cg ca 145) ((ca + 1) % 6) (min (cm + 1) 6)) ∨ ((0 ≤ d ∧ d < N 141) ∧ ¬ N 141 = 1 ∧ (N 141 - 1) = N 141 - 1 ∧ (drN N d (N 141 - 1)) = drN N d (N 141 - 1) ∧ MCH N Cg ca cm (cpC N Cg ca 145) ((ca + 1) % 6) (min (cm + 1) 6)) from Or.inr (Or.inr ⟨by omega, by omega, rfl, rfl, ⟨rfl, rfl, rfl⟩⟩)) rfl
      · skip
        refine r_aload_n C dX12_drop_55 0 rfl ?_
        refine gf_X12_7 C dX12_drop_56 0 rfl rfl ?_
        refine r_bipush C dX12_drop_59 rfl ?_
        refine r_iload_n C dX12_drop_61 2 rfl ?_
        refine r_iadd C dX12_drop_62 ?_
        refine r_aload_n C dX12_drop_63 0 rfl ?_
        refine gf_X12_7 C dX12_drop_64 0 rfl rfl ?_
        refine r_bipush C dX12_drop_67 rfl ?_
        refine r_iload_n C dX12_drop_69 2 rfl ?_
        refine r_iadd C dX12_drop_70 ?_
        refine r_iconst C dX12_drop_71 ?_
        refine r_iadd C dX12_drop_72 ?_
        refine r_iald C dX12_drop_73 1 rfl rfl (by omega) ?_
        refine r_iast C (ws' := [(hM, oB 11 [vi wi, vi hi, .ref mN, .ref mC, vi (min (cm + 1) 6), vi ((ca + 1) % 6), .ref mL, vi sc, vi qu, vi fp, .ref mT, vi lm, vi nw, vi nh, vi nr, .ref mF, .ref mR, .ref mD, .ref mA, vi ii, vi wo, vi wd, vi oe, .ref mK, vi rm, .ref mH, vi cn]), (mN, aI g 145 (zU P (121 + j) (P ((121 + j) + 1)))), (mC, aI g 870 (cpC N Cg ca 145))]) dX12_drop_74 1 rfl rfl (by omega) rfl ?_
        refine r_aload_n C dX12_drop_75 0 rfl ?_
        refine gf_X12_7 C dX12_drop_76 0 rfl rfl ?_
        refine r_sipush C dX12_drop_79 rfl ?_
        refine r_iload_n C dX12_drop_82 2 rfl ?_
        refine r_iadd C dX12_drop_83 ?_
        refine r_aload_n C dX12_drop_84 0 rfl ?_
        refine gf_X12_7 C dX12_drop_85 0 rfl rfl ?_
        refine r_sipush C dX12_drop_88 rfl ?_
        refine r_iload_n C dX12_drop_91 2 rfl ?_
        refine r_iadd C dX12_drop_92 ?_
        refine r_iconst C dX12_drop_93 ?_
        refine r_iadd C dX12_drop_94 ?_
        refine r_iald C dX12_drop_95 1 rfl rfl (by omega) ?_
        refine r_iast C (ws' := [(hM, oB 11 [vi wi, vi hi, .ref mN, .ref mC, vi (min (cm + 1) 6), vi ((ca + 1) % 6), .ref mL, vi sc, vi qu, vi fp, .ref mT, vi lm, vi nw, vi nh, vi nr, .ref mF, .ref mR, .ref mD, .ref mA, vi ii, vi wo, vi wd, vi oe, .ref mK, vi rm, .ref mH, vi cn]), (mN, aI g 145 (zU (zU P (121 + j) (P ((121 + j) + 1))) (131 + j) ((zU P (121 + j) (P ((121 + j) + 1))) ((131 + j) + 1)))), (mC, aI g 870 (cpC N Cg ca 145))]) dX12_drop_96 1 rfl rfl (by omega) rfl ?_
        refine r_iinc C (lv' := [(2, vi (j + 1)), (0, .ref hM), (1, vi d)]) dX12_drop_97 2 rfl rfl rfl ?_
        refine r_goto C 43 dX12_drop_100 rfl ?_
        refine r_lv (lv' := [(0, .ref hM), (1, vi d), (2, vi (j + 1))]) [1, 2, 0] rfl ?_
        exact ih_43 (j + 1, zU (zU P (121 + j) (P ((121 + j) + 1))) (131 + j) ((zU P (121 + j) (P ((121 + j) + 1))) ((131 + j) + 1))) (show (d ≤ (j + 1) ∧ (j + 1) ≤ N 141 - 1) ∧ ((zU (zU P (121 + j) (P ((121 + j) + 1))) (131 + j) ((zU P (121 + j) (P ((121 + j) + 1))) ((131 + j) + 1))) = drN N d (j + 1)) from ⟨(by omega), (by rw [jP]; exact drN_s N (by omega))⟩) (show N 141 - 1 - (j + 1) < N 141 - 1 - j from by omega)
    · skip
      refine r_bipush C dX12_drop_22 rfl ?_
      exact e_i C (N, Cg, ca, cm) dX12_drop_24 (show ((-2) = -1 ∧ ¬ (0 ≤ d ∧ d < N 141) ∧ MSA N Cg ca cm N Cg ca cm) ∨ ((-2) = -2 ∧ (0 ≤ d ∧ d < N 141) ∧ N 141 = 1 ∧ MSA N Cg ca cm N Cg ca cm) ∨ ((0 ≤ d ∧ d < N 141) ∧ ¬ N 141 = 1 ∧ (-2) = N 141 - 1 ∧ N = drN N d (N 141 - 1) ∧ MCH N Cg ca cm Cg ca cm) from Or.inr (Or.inl ⟨rfl, by omega, by omega, ⟨rfl, rfl, rfl, rfl⟩⟩)) rfl
  · skip
    refine r_iconst C dX12_drop_8 ?_
    exact e_i C (N, Cg, ca, cm) dX12_drop_9 (show ((-1) = -1 ∧ ¬ (0 ≤ d ∧ d < N 141) ∧ MSA N Cg ca cm N Cg ca cm) ∨ ((-1) = -2 ∧ (0 ≤ d ∧ d < N 141) ∧ N 141 = 1 ∧ MSA N Cg ca cm N Cg ca cm) ∨ ((0 ≤ d ∧ d < N 141) ∧ ¬ N 141 = 1 ∧ (-1) = N 141 - 1 ∧ N = drN N d (N 141 - 1) ∧ MCH N Cg ca cm Cg ca cm) from Or.inl ⟨rfl, by omega, ⟨rfl, rfl, rfl, rfl⟩⟩) rfl
set_option maxHeartbeats 1000000 in
set_option maxRecDepth 100000 in
theorem c_X12_measure (l : Launch) (g : Gx) (hM : Nat) (wi : Int) (hi : Int) (mN : Nat) (mC : Nat) (cm : Int) (ca : Int) (mL : Nat) (sc : Int) (qu : Int) (fp : Int) (mT : Nat) (lm : Int) (nw : Int) (nh : Int) (nr : Int) (mF : Nat) (mR : Nat) (mD : Nat) (mA : Nat) (ii : Int) (wo : Int) (wd : Int) (oe : Int) (mK : Nat) (rm : Int) (mH : Nat) (cn : Int) (N : Int → Int) (Cg : Int → Int) (x : Int) (y : Int) (hN : MOK wi hi N) (kca : 0 ≤ ca ∧ ca ≤ 5) (kcm : 0 ≤ cm ∧ cm ≤ 6) (bbx : -2147483648 ≤ x ∧ x ≤ 2147483647) (bby : -2147483648 ≤ y ∧ y ≤ 2147483647) (sz : Nat) : Met l yX12_measure (.code yX12_measure cX12_measure 4 (some .int) :: wsL_law) { frames := 1, cells := 0, slots := 0, locals := 22 } (PR g [.ref hM, vi x, vi y] [(hM, oB 11 [vi wi, vi hi, .ref mN, .ref mC, vi cm, vi ca, .ref mL, vi sc, vi qu, vi fp, .ref mT, vi lm, vi nw, vi nh, vi nr, .ref mF, .ref mR, .ref mD, .ref mA, vi ii, vi wo, vi wd, vi oe, .ref mK, vi rm, .ref mH, vi cn]), (mN, aI g 145 N), (mC, aI g 870 Cg)] sz) (PI (S := (Int → Int) × (Int → Int) × Int × Int) g (fun r u_ => (r = -1 ∧ ¬ (0 ≤ x ∧ x ≤ 2 ∧ 1 ≤ y ∧ y ≤ 99) ∧ MSA N Cg ca cm u_.1 u_.2.1 u_.2.2.1 u_.2.2.2) ∨ (r = -2 ∧ (0 ≤ x ∧ x ≤ 2 ∧ 1 ≤ y ∧ y ≤ 99) ∧ (N 142 = x ∧ N 143 = y) ∧ MSA N Cg ca cm u_.1 u_.2.1 u_.2.2.1 u_.2.2.2) ∨ ((0 ≤ x ∧ x ≤ 2 ∧ 1 ≤ y ∧ y ≤ 99) ∧ ¬ (N 142 = x ∧ N 143 = y) ∧ r = 100 * N 142 + N 143 ∧ u_.1 = zU (zU N 142 x) 143 y ∧ MCH N Cg ca cm u_.2.1 u_.2.2.1 u_.2.2.2)) (fun u_ => [(hM, oB 11 [vi wi, vi hi, .ref mN, .ref mC, vi u_.2.2.2, vi u_.2.2.1, .ref mL, vi sc, vi qu, vi fp, .ref mT, vi lm, vi nw, vi nh, vi nr, .ref mF, .ref mR, .ref mD, .ref mA, vi ii, vi wo, vi wd, vi oe, .ref mK, vi rm, .ref mH, vi cn]), (mN, aI g 145 u_.1), (mC, aI g 870 u_.2.1)]) [(hM, oB 11 [vi wi, vi hi, .ref mN, .ref mC, vi cm, vi ca, .ref mL, vi sc, vi qu, vi fp, .ref mT, vi lm, vi nw, vi nh, vi nr, .ref mF, .ref mR, .ref mD, .ref mA, vi ii, vi wo, vi wd, vi oe, .ref mK, vi rm, .ref mH, vi cn]), (mN, aI g 145 N), (mC, aI g 870 Cg)] sz) 0 0 (va_A [(hM, oB 11 [vi wi, vi hi, .ref mN, .ref mC, vi cm, vi ca, .ref mL, vi sc, vi qu, vi fp, .ref mT, vi lm, vi nw, vi nh, vi nr, .ref mF, .ref mR, .ref mD, .ref mA, vi ii, vi wo, vi wd, vi oe, .ref mK, vi rm, .ref mH, vi cn]), (mN, aI g 145 N), (mC, aI g 870 Cg)] sz) := by
  refine meet (own := RX12) rfl (plainFor_of_name (by decide +kernel)) rfl (fun p_ e_ s_ m_ args_ below_ meth_ c_ C hnm => ?_)
  refine r_at (ws' := [(hM, oB 11 [vi wi, vi hi, .ref mN, .ref mC, vi cm, vi ca, .ref mL, vi sc, vi qu, vi fp, .ref mT, vi lm, vi nw, vi nh, vi nr, .ref mF, .ref mR, .ref mD, .ref mA, vi ii, vi wo, vi wd, vi oe, .ref mK, vi rm, .ref mH, vi cn]), (mN, aI g 145 N), (mC, aI g 870 Cg)]) (lv' := [(0, .ref hM), (1, vi x), (2, vi y)]) rfl rfl ?_
  obtain ⟨nW, nH, n1, nO, nn, nX, nY, nM, nC, nT⟩ := id hN
  refine r_iload_n C dX12_measure_0 1 rfl ?_
  refine r_iconst C dX12_measure_1 ?_
  refine r_iconst C dX12_measure_2 ?_
  refine k_Si C ks_X12_58 (fun sz => c_X12_in l g x 0 2 (by omega) (by omega) (by omega) sz) dX12_measure_3 rfl rfl rfl ⟨rfl, rfl⟩ [] rfl rfl (fun _ => rfl) (ws' := fun u_ => [(hM, oB 11 [vi wi, vi hi, .ref mN, .ref mC, vi cm, vi ca, .ref mL, vi sc, vi qu, vi fp, .ref mT, vi lm, vi nw, vi nh, vi nr, .ref mF, .ref mR, .ref mD, .ref mA, vi ii, vi wo, vi wd, vi oe, .ref mK, vi rm, .ref mH, vi cn]), (mN, aI g 145 N), (mC, aI g 870 Cg)]) (fun _ => rfl) (fun r_3 u_ p_3 => ?_)
  have p_3 : (r_3 = 1 ∧ 0 ≤ x ∧ x ≤ 2) ∨ (r_3 = 0 ∧ ¬ (0 ≤ x ∧ x ≤ 2)) := p_3
  refine r_if_eq C 19 dX12_measure_6 rfl (by omega) (fun c_1 => ?_) (fun c_1 => ?_)
  · skip
    refine r_iconst C dX12_measure_19 ?_
    exact e_i C (N, Cg, ca, cm) dX12_measure_20 (show ((-1) = -1 ∧ ¬ (0 ≤ x ∧ x ≤ 2 ∧ 1 ≤ y ∧ y ≤ 99) ∧ MSA N Cg ca cm N Cg ca cm) ∨ ((-1) = -2 ∧ (0 ≤ x ∧ x ≤ 2 ∧ 1 ≤ y ∧ y ≤ 99) ∧ (N 142 = x ∧ N 143 = y) ∧ MSA N Cg ca cm N Cg ca cm) ∨ ((0 ≤ x ∧ x ≤ 2 ∧ 1 ≤ y ∧ y ≤ 99) ∧ ¬ (N 142 = x ∧ N 143 = y) ∧ (-1) = 100 * N 142 + N 143 ∧ N = zU (zU N 142 x) 143 y ∧ MCH N Cg ca cm Cg ca cm) from Or.inl ⟨rfl, by omega, ⟨rfl, rfl, rfl, rfl⟩⟩) rfl
  · skip
    refine r_iload_n C dX12_measure_9 2 rfl ?_
    refine r_iconst C dX12_measure_10 ?_
    refine r_bipush C dX12_measure_11 rfl ?_
    refine k_Si C ks_X12_58 (fun sz => c_X12_in l g y 1 99 (by omega) (by omega) (by omega) sz) dX12_measure_13 rfl rfl rfl ⟨rfl, rfl⟩ [] rfl rfl (fun _ => rfl) (ws' := fun u_ => [(hM, oB 11 [vi wi, vi hi, .ref mN, .ref mC, vi cm, vi ca, .ref mL, vi sc, vi qu, vi fp, .ref mT, vi lm, vi nw, vi nh, vi nr, .ref mF, .ref mR, .ref mD, .ref mA, vi ii, vi wo, vi wd, vi oe, .ref mK, vi rm, .ref mH, vi cn]), (mN, aI g 145 N), (mC, aI g 870 Cg)]) (fun _ => rfl) (fun r_13 u_ p_13 => ?_)
    have p_13 : (r_13 = 1 ∧ 1 ≤ y ∧ y ≤ 99) ∨ (r_13 = 0 ∧ ¬ (1 ≤ y ∧ y ≤ 99)) := p_13
    refine r_if_ne C 21 dX12_measure_16 rfl (by omega) (fun c_2 => ?_) (fun c_2 => ?_)
    · skip
      refine r_aload_n C dX12_measure_21 0 rfl ?_
      refine gf_X12_7 C dX12_measure_22 0 rfl rfl ?_
      refine r_sipush C dX12_measure_25 rfl ?_
      refine r_iald C dX12_measure_28 1 rfl rfl (by omega) ?_
      refine r_iload_n C dX12_measure_29 1 rfl ?_
      refine r_icmp_ne C 48 dX12_measure_30 rfl (by omega) (fun c_3 => ?_) (fun c_3 => ?_)
      · skip
        refine r_aload_n C dX12_measure_48 0 rfl ?_
        refine k_Vv C kv_X12_124 (fun sz => c_X12_remembers l g hM wi hi mN mC cm ca mL sc qu fp mT lm nw nh nr mF mR mD mA ii wo wd oe mK rm mH cn N Cg kca kcm sz) dX12_measure_49 rfl rfl rfl ⟨rfl, rfl⟩ 0 11 rfl rfl rfl [0, 1, 2] rfl rfl (fun _ => rfl) (ws' := fun u_ => [(hM, oB 11 [vi wi, vi hi, .ref mN, .ref mC, vi (min (cm + 1) 6), vi ((ca + 1) % 6), .ref mL, vi sc, vi qu, vi fp, .ref mT, vi lm, vi nw, vi nh, vi nr, .ref mF, .ref mR, .ref mD, .ref mA, vi ii, vi wo, vi wd, vi oe, .ref mK, vi rm, .ref mH, vi cn]), (mN, aI g 145 N), (mC, aI g 870 (cpC N Cg ca 145))]) (fun _ => rfl) (fun u_ p_49 => ?_)
        refine r_bipush C dX12_measure_52 rfl ?_
        refine r_aload_n C dX12_measure_54 0 rfl ?_
        refine gf_X12_7 C dX12_measure_55 0 rfl rfl ?_
        refine r_sipush C dX12_measure_58 rfl ?_
        refine r_iald C dX12_measure_61 1 rfl rfl (by omega) ?_
        refine r_imul C dX12_measure_62 ?_
        refine r_aload_n C dX12_measure_63 0 rfl ?_
        refine gf_X12_7 C dX12_measure_64 0 rfl rfl ?_
        refine r_sipush C dX12_measure_67 rfl ?_
        refine r_iald C dX12_measure_70 1 rfl rfl (by omega) ?_
        refine r_iadd C dX12_measure_71 ?_
        refine r_istore_n C (lv' := [(3, vi ((100 * (N 142)) + (N 143))), (0, .ref hM), (1, vi x), (2, vi y)]) dX12_measure_72 rfl rfl ?_
        refine r_aload_n C dX12_measure_73 1 rfl ?_
        refine gf_X12_7 C dX12_measure_74 0 rfl rfl ?_
        refine r_sipush C dX12_measure_77 rfl ?_
        refine r_iload_n C dX12_measure_80 2 rfl ?_
        refine r_iast C (ws' := [(hM, oB 11 [vi wi, vi hi, .ref mN, .ref mC, vi (min (cm + 1) 6), vi ((ca + 1) % 6), .ref mL, vi sc, vi qu, vi fp, .ref mT, vi lm, vi nw, vi nh, vi nr, .ref mF, .ref mR, .ref mD, .ref mA, vi ii, vi wo, vi wd, vi oe, .ref mK, vi rm, .ref mH, vi cn]), (mN, aI g 145 (zU N 142 x)), (mC, aI g 870 (cpC N Cg ca 145))]) dX12_measure_81 1 rfl rfl (by omega) rfl ?_
        refine r_aload_n C dX12_measure_82 1 rfl ?_
        refine gf_X12_7 C dX12_measure_83 0 rfl rfl ?_
        refine r_sipush C dX12_measure_86 rfl ?_
        refine r_iload_n C dX12_measure_89 3 rfl ?_
        refine r_iast C (ws' := [(hM, oB 11 [vi wi, vi hi, .ref mN, .ref mC, vi (min (cm + 1) 6), vi ((ca + 1) % 6), .ref mL, vi sc, vi qu, vi fp, .ref mT, vi lm, vi nw, vi nh, vi nr, .ref mF, .ref mR, .ref mD, .ref mA, vi ii, vi wo, vi wd, vi oe, .ref mK, vi rm, .ref mH, vi cn]), (mN, aI g 145 (zU (zU N 142 x) 143 y)), (mC, aI g 870 (cpC N Cg ca 145))]) dX12_measure_90 1 rfl rfl (by omega) rfl ?_
        refine r_iload_n C dX12_measure_91 0 rfl ?_
        exact e_i C (zU (zU N 142 x) 143 y, cpC N Cg ca 145, (ca + 1) % 6, min (cm + 1) 6) dX12_measure_92 (show (((100 * (N 142)) + (N 143)) = -1 ∧ ¬ (0 ≤ x ∧ x ≤ 2 ∧ 1 ≤ y ∧ y ≤ 99) ∧ MSA N Cg ca cm (zU (zU N 142 x) 143 y) (cpC N Cg ca 145) ((ca + 1) % 6) (min (cm + 1) 6)) ∨ (((100 * (N 142)) + (N 143)) = -2 ∧ (0 ≤ x ∧ x ≤ 2 ∧ 1 ≤ y ∧ y ≤ 99) ∧ (N 142 = x ∧ N 143 = y) ∧ MSA N Cg ca cm (zU (zU N 142 x) 143 y) (cpC N Cg ca 145) ((ca + 1) % 6) (min (cm + 1) 6)) ∨ ((0 ≤ x ∧ x ≤ 2 ∧ 1 ≤ y ∧ y ≤ 99) ∧ ¬ (N 142 = x ∧ N 143 = y) ∧ ((100 * (N 142)) + (N 143)) = 100 * N 142 + N 143 ∧ (zU (zU N 142 x) 143 y) = zU (zU N 142 x) 143 y ∧ MCH N Cg ca cm (cpC N Cg ca 145) ((ca + 1) % 6) (min (cm + 1) 6)) from Or.inr (Or.inr ⟨by omega, by omega, rfl, rfl, ⟨rfl, rfl, rfl⟩⟩)) rfl
      · skip
        refine r_aload_n C dX12_measure_33 0 rfl ?_
        refine gf_X12_7 C dX12_measure_34 0 rfl rfl ?_
        refine r_sipush C dX12_measure_37 rfl ?_
        refine r_iald C dX12_measure_40 1 rfl rfl (by omega) ?_
        refine r_iload_n C dX12_measure_41 2 rfl ?_
        refine r_icmp_ne C 48 dX12_measure_42 rfl (by omega) (fun c_4 => ?_) (fun c_4 => ?_)
        · skip
          refine r_aload_n C dX12_measure_48 0 rfl ?_
          refine k_Vv C kv_X12_124 (fun sz => c_X12_remembers l g hM wi hi mN mC cm ca mL sc qu fp mT lm nw nh nr mF mR mD mA ii wo wd oe mK rm mH cn N Cg kca kcm sz) dX12_measure_49 rfl rfl rfl ⟨rfl, rfl⟩ 0 11 rfl rfl rfl [0, 1, 2] rfl rfl (fun _ => rfl) (ws' := fun u_ => [(hM, oB 11 [vi wi, vi hi, .ref mN, .ref mC, vi (min (cm + 1) 6), vi ((ca + 1) % 6), .ref mL, vi sc, vi qu, vi fp, .ref mT, vi lm, vi nw, vi nh, vi nr, .ref mF, .ref mR, .ref mD, .ref mA, vi ii, vi wo, vi wd, vi oe, .ref mK, vi rm, .ref mH, vi cn]), (mN, aI g 145 N), (mC, aI g 870 (cpC N Cg ca 145))]) (fun _ => rfl) (fun u_ p_49 => ?_)
          refine r_bipush C dX12_measure_52 rfl ?_
          refine r_aload_n C dX12_measure_54 0 rfl ?_
          refine gf_X12_7 C dX12_measure_55 0 rfl rfl ?_
          refine r_sipush C dX12_measure_58 rfl ?_
          refine r_iald C dX12_measure_61 1 rfl rfl (by omega) ?_
          refine r_imul C dX12_measure_62 ?_
          refine r_aload_n C dX12_measure_63 0 rfl ?_
          refine gf_X12_7 C dX12_measure_64 0 rfl rfl ?_
          refine r_sipush C dX12_measure_67 rfl ?_
          refine r_iald C dX12_measure_70 1 rfl rfl (by omega) ?_
          refine r_iadd C dX12_measure_71 ?_
          refine r_istore_n C (lv' := [(3, vi ((100 * (N 142)) + (N 143))), (0, .ref hM), (1, vi x), (2, vi y)]) dX12_measure_72 rfl rfl ?_
          refine r_aload_n C dX12_measure_73 1 rfl ?_
          refine gf_X12_7 C dX12_measure_74 0 rfl rfl ?_
          refine r_sipush C dX12_measure_77 rfl ?_
          refine r_iload_n C dX12_measure_80 2 rfl ?_
          refine r_iast C (ws' := [(hM, oB 11 [vi wi, vi hi, .ref mN, .ref mC, vi (min (cm + 1) 6), vi ((ca + 1) % 6), .ref mL, vi sc, vi qu, vi fp, .ref mT, vi lm, vi nw, vi nh, vi nr, .ref mF, .ref mR, .ref mD, .ref mA, vi ii, vi wo, vi wd, vi oe, .ref mK, vi rm, .ref mH, vi cn]), (mN, aI g 145 (zU N 142 x)), (mC, aI g 870 (cpC N Cg ca 145))]) dX12_measure_81 1 rfl rfl (by omega) rfl ?_
          refine r_aload_n C dX12_measure_82 1 rfl ?_
          refine gf_X12_7 C dX12_measure_83 0 rfl rfl ?_
          refine r_sipush C dX12_measure_86 rfl ?_
          refine r_iload_n C dX12_measure_89 3 rfl ?_
          refine r_iast C (ws' := [(hM, oB 11 [vi wi, vi hi, .ref mN, .ref mC, vi (min (cm + 1) 6), vi ((ca + 1) % 6), .ref mL, vi sc, vi qu, vi fp, .ref mT, vi lm, vi nw, vi nh, vi nr, .ref mF, .ref mR, .ref mD, .ref mA, vi ii, vi wo, vi wd, vi oe, .ref mK, vi rm, .ref mH, vi cn]), (mN, aI g 145 (zU (zU N 142 x) 143 y)), (mC, aI g 870 (cpC N Cg ca 145))]) dX12_measure_90 1 rfl rfl (by omega) rfl ?_
          refine r_iload_n C dX12_measure_91 0 rfl ?_
          exact e_i C (zU (zU N 142 x) 143 y, cpC N Cg ca 145, (ca + 1) % 6, min (cm + 1) 6) dX12_measure_92 (show (((100 * (N 142)) + (N 143)) = -1 ∧ ¬ (0 ≤ x ∧ x ≤ 2 ∧ 1 ≤ y ∧ y ≤ 99) ∧ MSA N Cg ca cm (zU (zU N 142 x) 143 y) (cpC N Cg ca 145) ((ca + 1) % 6) (min (cm + 1) 6)) ∨ (((100 * (N 142)) + (N 143)) = -2 ∧ (0 ≤ x ∧ x ≤ 2 ∧ 1 ≤ y ∧ y ≤ 99) ∧ (N 142 = x ∧ N 143 = y) ∧ MSA N Cg ca cm (zU (zU N 142 x) 143 y) (cpC N Cg ca 145) ((ca + 1) % 6) (min (cm + 1) 6)) ∨ ((0 ≤ x ∧ x ≤ 2 ∧ 1 ≤ y ∧ y ≤ 99) ∧ ¬ (N 142 = x ∧ N 143 = y) ∧ ((100 * (N 142)) + (N 143)) = 100 * N 142 + N 143 ∧ (zU (zU N 142 x) 143 y) = zU (zU N 142 x) 143 y ∧ MCH N Cg ca cm (cpC N Cg ca 145) ((ca + 1) % 6) (min (cm + 1) 6)) from Or.inr (Or.inr ⟨by omega, by omega, rfl, rfl, ⟨rfl, rfl, rfl⟩⟩)) rfl
        · skip
          refine r_bipush C dX12_measure_45 rfl ?_
          exact e_i C (N, Cg, ca, cm) dX12_measure_47 (show ((-2) = -1 ∧ ¬ (0 ≤ x ∧ x ≤ 2 ∧ 1 ≤ y ∧ y ≤ 99) ∧ MSA N Cg ca cm N Cg ca cm) ∨ ((-2) = -2 ∧ (0 ≤ x ∧ x ≤ 2 ∧ 1 ≤ y ∧ y ≤ 99) ∧ (N 142 = x ∧ N 143 = y) ∧ MSA N Cg ca cm N Cg ca cm) ∨ ((0 ≤ x ∧ x ≤ 2 ∧ 1 ≤ y ∧ y ≤ 99) ∧ ¬ (N 142 = x ∧ N 143 = y) ∧ (-2) = 100 * N 142 + N 143 ∧ N = zU (zU N 142 x) 143 y ∧ MCH N Cg ca cm Cg ca cm) from Or.inr (Or.inl ⟨rfl, by omega, by omega, ⟨rfl, rfl, rfl, rfl⟩⟩)) rfl
    · skip
      refine r_iconst C dX12_measure_19 ?_
      exact e_i C (N, Cg, ca, cm) dX12_measure_20 (show ((-1) = -1 ∧ ¬ (0 ≤ x ∧ x ≤ 2 ∧ 1 ≤ y ∧ y ≤ 99) ∧ MSA N Cg ca cm N Cg ca cm) ∨ ((-1) = -2 ∧ (0 ≤ x ∧ x ≤ 2 ∧ 1 ≤ y ∧ y ≤ 99) ∧ (N 142 = x ∧ N 143 = y) ∧ MSA N Cg ca cm N Cg ca cm) ∨ ((0 ≤ x ∧ x ≤ 2 ∧ 1 ≤ y ∧ y ≤ 99) ∧ ¬ (N 142 = x ∧ N 143 = y) ∧ (-1) = 100 * N 142 + N 143 ∧ N = zU (zU N 142 x) 143 y ∧ MCH N Cg ca cm Cg ca cm) from Or.inl ⟨rfl, by omega, ⟨rfl, rfl, rfl, rfl⟩⟩) rfl
set_option maxHeartbeats 1000000 in
set_option maxRecDepth 100000 in
theorem c_X12_apart (l : Launch) (g : Gx) (hM : Nat) (wi : Int) (hi : Int) (mN : Nat) (mC : Nat) (cm : Int) (ca : Int) (mL : Nat) (sc : Int) (qu : Int) (fp : Int) (mT : Nat) (lm : Int) (nw : Int) (nh : Int) (nr : Int) (mF : Nat) (mR : Nat) (mD : Nat) (mA : Nat) (ii : Int) (wo : Int) (wd : Int) (oe : Int) (mK : Nat) (rm : Int) (mH : Nat) (cn : Int) (N : Int → Int) (x : Int) (y : Int) (u : Int) (v : Int) (nM : 0 ≤ N 142 ∧ N 142 ≤ 2) (kxy : -1000 ≤ x ∧ x ≤ 1000 ∧ -1000 ≤ y ∧ y ≤ 1000 ∧ -1000 ≤ u ∧ u ≤ 1000 ∧ -1000 ≤ v ∧ v ≤ 1000) (sz : Nat) : Met l yX12_apart (.code yX12_apart cX12_apart 8 (some .int) :: wsL_law) { frames := 0, cells := 0, slots := 0, locals := 0 } (PR g [.ref hM, vi x, vi y, vi u, vi v] [(hM, oB 11 [vi wi, vi hi, .ref mN, .ref mC, vi cm, vi ca, .ref mL, vi sc, vi qu, vi fp, .ref mT, vi lm, vi nw, vi nh, vi nr, .ref mF, .ref mR, .ref mD, .ref mA, vi ii, vi wo, vi wd, vi oe, .ref mK, vi rm, .ref mH, vi cn]), (mN, aI g 145 N)] sz) (PI (S := Unit) g (fun r u_ => r = dst (N 142) (x - u) (y - v)) (fun u_ => [(hM, oB 11 [vi wi, vi hi, .ref mN, .ref mC, vi cm, vi ca, .ref mL, vi sc, vi qu, vi fp, .ref mT, vi lm, vi nw, vi nh, vi nr, .ref mF, .ref mR, .ref mD, .ref mA, vi ii, vi wo, vi wd, vi oe, .ref mK, vi rm, .ref mH, vi cn]), (mN, aI g 145 N)]) [(hM, oB 11 [vi wi, vi hi, .ref mN, .ref mC, vi cm, vi ca, .ref mL, vi sc, vi qu, vi fp, .ref mT, vi lm, vi nw, vi nh, vi nr, .ref mF, .ref mR, .ref mD, .ref mA, vi ii, vi wo, vi wd, vi oe, .ref mK, vi rm, .ref mH, vi cn]), (mN, aI g 145 N)] sz) 0 0 (va_A [(hM, oB 11 [vi wi, vi hi, .ref mN, .ref mC, vi cm, vi ca, .ref mL, vi sc, vi qu, vi fp, .ref mT, vi lm, vi nw, vi nh, vi nr, .ref mF, .ref mR, .ref mD, .ref mA, vi ii, vi wo, vi wd, vi oe, .ref mK, vi rm, .ref mH, vi cn]), (mN, aI g 145 N)] sz) := by
  refine meet (own := RX12) rfl (plainFor_of_name (by decide +kernel)) rfl (fun p_ e_ s_ m_ args_ below_ meth_ c_ C hnm => ?_)
  refine r_at (ws' := [(hM, oB 11 [vi wi, vi hi, .ref mN, .ref mC, vi cm, vi ca, .ref mL, vi sc, vi qu, vi fp, .ref mT, vi lm, vi nw, vi nh, vi nr, .ref mF, .ref mR, .ref mD, .ref mA, vi ii, vi wo, vi wd, vi oe, .ref mK, vi rm, .ref mH, vi cn]), (mN, aI g 145 N)]) (lv' := [(0, .ref hM), (1, vi x), (2, vi y), (3, vi u), (4, vi v)]) rfl rfl ?_
  refine r_join (σ := Int) 14 (fun z_ => (z_ = ab (x - u)) ∧ (0 ≤ z_ ∧ z_ ≤ 2000)) (fun z_ => [(hM, oB 11 [vi wi, vi hi, .ref mN, .ref mC, vi cm, vi ca, .ref mL, vi sc, vi qu, vi fp, .ref mT, vi lm, vi nw, vi nh, vi nr, .ref mF, .ref mR, .ref mD, .ref mA, vi ii, vi wo, vi wd, vi oe, .ref mK, vi rm, .ref mH, vi cn]), (mN, aI g 145 N)]) (fun z_ => [(0, .ref hM), (1, vi x), (2, vi y), (3, vi u), (4, vi v)]) (fun z_ => [vi z_]) (fun z_ hz => ?_) (fun J_14 => ?_)
  rotate_left
  · skip
    refine r_iload_n C dX12_apart_0 1 rfl ?_
    refine r_iload_n C dX12_apart_1 3 rfl ?_
    refine r_icmp_ge C 11 dX12_apart_2 rfl (by omega) (fun c_1 => ?_) (fun c_1 => ?_)
    · skip
      refine r_iload_n C dX12_apart_11 1 rfl ?_
      refine r_iload_n C dX12_apart_12 3 rfl ?_
      refine r_isub C dX12_apart_13 ?_
      refine r_lv (lv' := [(0, .ref hM), (1, vi x), (2, vi y), (3, vi u), (4, vi v)]) [0, 1, 2, 3, 4] rfl ?_
      exact J_14 (x - u) (show ((x - u) = ab (x - u)) ∧ (0 ≤ (x - u) ∧ (x - u) ≤ 2000) from ⟨(by unfold ab; omega), (by omega)⟩)
    · skip
      refine r_iload_n C dX12_apart_5 3 rfl ?_
      refine r_iload_n C dX12_apart_6 1 rfl ?_
      refine r_isub C dX12_apart_7 ?_
      refine r_goto C 14 dX12_apart_8 rfl ?_
      refine r_lv (lv' := [(0, .ref hM), (1, vi x), (2, vi y), (3, vi u), (4, vi v)]) [0, 1, 2, 3, 4] rfl ?_
      exact J_14 (u - x) (show ((u - x) = ab (x - u)) ∧ (0 ≤ (u - x) ∧ (u - x) ≤ 2000) from ⟨(by unfold ab; omega), (by omega)⟩)
  obtain ⟨a, rfl⟩ : ∃ w_, w_ = z_ := ⟨_, rfl⟩
  obtain ⟨ja, jab⟩ := hz
  have ja : a = ab (x - u) := ja
  have jab : 0 ≤ a ∧ a ≤ 2000 := jab
  refine r_at3 (ws' := [(hM, oB 11 [vi wi, vi hi, .ref mN, .ref mC, vi cm, vi ca, .ref mL, vi sc, vi qu, vi fp, .ref mT, vi lm, vi nw, vi nh, vi nr, .ref mF, .ref mR, .ref mD, .ref mA, vi ii, vi wo, vi wd, vi oe, .ref mK, vi rm, .ref mH, vi cn]), (mN, aI g 145 N)]) (lv' := [(0, .ref hM), (1, vi x), (2, vi y), (3, vi u), (4, vi v)]) (st' := [vi a]) rfl rfl rfl ?_
  refine r_istore C (lv' := [(5, vi a), (0, .ref hM), (1, vi x), (2, vi y), (3, vi u), (4, vi v)]) dX12_apart_14 rfl rfl ?_
  refine r_join (σ := Int) 33 (fun z_ => (z_ = ab (y - v)) ∧ (0 ≤ z_ ∧ z_ ≤ 2000)) (fun z_ => [(hM, oB 11 [vi wi, vi hi, .ref mN, .ref mC, vi cm, vi ca, .ref mL, vi sc, vi qu, vi fp, .ref mT, vi lm, vi nw, vi nh, vi nr, .ref mF, .ref mR, .ref mD, .ref mA, vi ii, vi wo, vi wd, vi oe, .ref mK, vi rm, .ref mH, vi cn]), (mN, aI g 145 N)]) (fun z_ => [(5, vi a), (0, .ref hM), (1, vi x), (2, vi y), (3, vi u), (4, vi v)]) (fun z_ => [vi z_]) (fun z_ hz => ?_) (fun J_33 => ?_)
  rotate_left
  · skip
    refine r_iload_n C dX12_apart_16 3 rfl ?_
    refine r_iload C dX12_apart_17 5 rfl ?_
    refine r_icmp_ge C 29 dX12_apart_19 rfl (by omega) (fun c_2 => ?_) (fun c_2 => ?_)
    · skip
      refine r_iload_n C dX12_apart_29 3 rfl ?_
      refine r_iload C dX12_apart_30 5 rfl ?_
      refine r_isub C dX12_apart_32 ?_
      refine r_lv (lv' := [(5, vi a), (0, .ref hM), (1, vi x), (2, vi y), (3, vi u), (4, vi v)]) [0, 1, 2, 3, 4, 5] rfl ?_
      exact J_33 (y - v) (show ((y - v) = ab (y - v)) ∧ (0 ≤ (y - v) ∧ (y - v) ≤ 2000) from ⟨(by unfold ab; omega), (by omega)⟩)
    · skip
      refine r_iload C dX12_apart_22 5 rfl ?_
      refine r_iload_n C dX12_apart_24 3 rfl ?_
      refine r_isub C dX12_apart_25 ?_
      refine r_goto C 33 dX12_apart_26 rfl ?_
      refine r_lv (lv' := [(5, vi a), (0, .ref hM), (1, vi x), (2, vi y), (3, vi u), (4, vi v)]) [0, 1, 2, 3, 4, 5] rfl ?_
      exact J_33 (v - y) (show ((v - y) = ab (y - v)) ∧ (0 ≤ (v - y) ∧ (v - y) ≤ 2000) from ⟨(by unfold ab; omega), (by omega)⟩)
  obtain ⟨b, rfl⟩ : ∃ w_, w_ = z_ := ⟨_, rfl⟩
  obtain ⟨jb, jbb⟩ := hz
  have jb : b = ab (y - v) := jb
  have jbb : 0 ≤ b ∧ b ≤ 2000 := jbb
  refine r_at3 (ws' := [(hM, oB 11 [vi wi, vi hi, .ref mN, .ref mC, vi cm, vi ca, .ref mL, vi sc, vi qu, vi fp, .ref mT, vi lm, vi nw, vi nh, vi nr, .ref mF, .ref mR, .ref mD, .ref mA, vi ii, vi wo, vi wd, vi oe, .ref mK, vi rm, .ref mH, vi cn]), (mN, aI g 145 N)]) (lv' := [(5, vi a), (0, .ref hM), (1, vi x), (2, vi y), (3, vi u), (4, vi v)]) (st' := [vi b]) rfl rfl rfl ?_
  refine r_istore C (lv' := [(6, vi b), (5, vi a), (0, .ref hM), (1, vi x), (2, vi y), (3, vi u), (4, vi v)]) dX12_apart_33 rfl rfl ?_
  refine r_iload C dX12_apart_35 1 rfl ?_
  refine r_iload C dX12_apart_37 0 rfl ?_
  refine r_icmp_le C 47 dX12_apart_39 rfl (by omega) (fun c_3 => ?_) (fun c_3 => ?_)
  · skip
    refine r_iload C dX12_apart_47 0 rfl ?_
    refine r_istore C (lv' := [(7, vi b), (6, vi b), (5, vi a), (0, .ref hM), (1, vi x), (2, vi y), (3, vi u), (4, vi v)]) dX12_apart_49 rfl rfl ?_
    refine r_aload_n C dX12_apart_51 3 rfl ?_
    refine gf_X12_7 C dX12_apart_52 0 rfl rfl ?_
    refine r_sipush C dX12_apart_55 rfl ?_
    refine r_iald C dX12_apart_58 1 rfl rfl (by omega) ?_
    refine r_if_ne C 70 dX12_apart_59 rfl (by omega) (fun c_4 => ?_) (fun c_4 => ?_)
    · skip
      refine r_aload_n C dX12_apart_70 3 rfl ?_
      refine gf_X12_7 C dX12_apart_71 0 rfl rfl ?_
      refine r_sipush C dX12_apart_74 rfl ?_
      refine r_iald C dX12_apart_77 1 rfl rfl (by omega) ?_
      refine r_iconst C dX12_apart_78 ?_
      refine r_icmp_ne C 87 dX12_apart_79 rfl (by omega) (fun c_5 => ?_) (fun c_5 => ?_)
      · skip
        refine r_iconst C dX12_apart_87 ?_
        refine r_iload C dX12_apart_88 0 rfl ?_
        refine r_imul C dX12_apart_90 ?_
        refine r_iload C dX12_apart_91 2 rfl ?_
        refine r_iadd C dX12_apart_93 ?_
        refine r_iload C dX12_apart_94 1 rfl ?_
        refine r_iadd C dX12_apart_96 ?_
        refine r_iload C dX12_apart_97 0 rfl ?_
        refine r_isub C dX12_apart_99 ?_
        exact e_i C () dX12_apart_100 (show ((((3 * b) + a) + b) - b) = dst (N 142) (x - u) (y - v) from by unfold dst; rw [← ja, ← jb]; omega) rfl
      · skip
        refine r_iload C dX12_apart_82 0 rfl ?_
        refine r_goto C 100 dX12_apart_84 rfl ?_
        exact e_i C () dX12_apart_100 (show b = dst (N 142) (x - u) (y - v) from by unfold dst; rw [← ja, ← jb]; omega) rfl
    · skip
      refine r_iload C dX12_apart_62 2 rfl ?_
      refine r_iload C dX12_apart_64 1 rfl ?_
      refine r_iadd C dX12_apart_66 ?_
      refine r_goto C 100 dX12_apart_67 rfl ?_
      exact e_i C () dX12_apart_100 (show (a + b) = dst (N 142) (x - u) (y - v) from by unfold dst; rw [← ja, ← jb]; omega) rfl
  · skip
    refine r_iload C dX12_apart_42 1 rfl ?_
    refine r_goto C 49 dX12_apart_44 rfl ?_
    refine r_istore C (lv' := [(7, vi a), (6, vi b), (5, vi a), (0, .ref hM), (1, vi x), (2, vi y), (3, vi u), (4, vi v)]) dX12_apart_49 rfl rfl ?_
    refine r_aload_n C dX12_apart_51 3 rfl ?_
    refine gf_X12_7 C dX12_apart_52 0 rfl rfl ?_
    refine r_sipush C dX12_apart_55 rfl ?_
    refine r_iald C dX12_apart_58 1 rfl rfl (by omega) ?_
    refine r_if_ne C 70 dX12_apart_59 rfl (by omega) (fun c_6 => ?_) (fun c_6 => ?_)
    · skip
      refine r_aload_n C dX12_apart_70 3 rfl ?_
      refine gf_X12_7 C dX12_apart_71 0 rfl rfl ?_
      refine r_sipush C dX12_apart_74 rfl ?_
      refine r_iald C dX12_apart_77 1 rfl rfl (by omega) ?_
      refine r_iconst C dX12_apart_78 ?_
      refine r_icmp_ne C 87 dX12_apart_79 rfl (by omega) (fun c_7 => ?_) (fun c_7 => ?_)
      · skip
        refine r_iconst C dX12_apart_87 ?_
        refine r_iload C dX12_apart_88 0 rfl ?_
        refine r_imul C dX12_apart_90 ?_
        refine r_iload C dX12_apart_91 2 rfl ?_
        refine r_iadd C dX12_apart_93 ?_
        refine r_iload C dX12_apart_94 1 rfl ?_
        refine r_iadd C dX12_apart_96 ?_
        refine r_iload C dX12_apart_97 0 rfl ?_
        refine r_isub C dX12_apart_99 ?_
        exact e_i C () dX12_apart_100 (show ((((3 * a) + a) + b) - a) = dst (N 142) (x - u) (y - v) from by unfold dst; rw [← ja, ← jb]; omega) rfl
      · skip
        refine r_iload C dX12_apart_82 0 rfl ?_
        refine r_goto C 100 dX12_apart_84 rfl ?_
        exact e_i C () dX12_apart_100 (show a = dst (N 142) (x - u) (y - v) from by unfold dst; rw [← ja, ← jb]; omega) rfl
    · skip
      refine r_iload C dX12_apart_62 2 rfl ?_
      refine r_iload C dX12_apart_64 1 rfl ?_
      refine r_iadd C dX12_apart_66 ?_
      refine r_goto C 100 dX12_apart_67 rfl ?_
      exact e_i C () dX12_apart_100 (show (a + b) = dst (N 142) (x - u) (y - v) from by unfold dst; rw [← ja, ← jb]; omega) rfl
set_option maxHeartbeats 1000000 in
set_option maxRecDepth 100000 in
theorem c_X12_nearestOf (l : Launch) (g : Gx) (hM : Nat) (wi : Int) (hi : Int) (mN : Nat) (mC : Nat) (cm : Int) (ca : Int) (mL : Nat) (sc : Int) (qu : Int) (fp : Int) (mT : Nat) (lm : Int) (nw : Int) (nh : Int) (nr : Int) (mF : Nat) (mR : Nat) (mD : Nat) (mA : Nat) (ii : Int) (wo : Int) (wd : Int) (oe : Int) (mK : Nat) (rm : Int) (mH : Nat) (cn : Int) (N : Int → Int) (x : Int) (y : Int) (n1 : ∀ k : Int, 0 ≤ k → k < 121 → N k = 0 ∨ N k = 1) (nM : 0 ≤ N 142 ∧ N 142 ≤ 2) (kxy : -30 ≤ x ∧ x ≤ 30 ∧ -30 ≤ y ∧ y ≤ 30) (sz : Nat) : Met l yX12_nearestOf (.code yX12_nearestOf cX12_nearestOf 7 (some .int) :: wsL_law) { frames := 1, cells := 0, slots := 0, locals := 27 } (PR g [.ref hM, vi x, vi y] [(hM, oB 11 [vi wi, vi hi, .ref mN, .ref mC, vi cm, vi ca, .ref mL, vi sc, vi qu, vi fp, .ref mT, vi lm, vi nw, vi nh, vi nr, .ref mF, .ref mR, .ref mD, .ref mA, vi ii, vi wo, vi wd, vi oe, .ref mK, vi rm, .ref mH, vi cn]), (mN, aI g 145 N)] sz) (PI (S := Unit) g (fun r u_ => (∃ ls : Int, NQP N (N 142) x y 121 r ls) ∧ -4 ≤ r ∧ r ≤ 120 ∧ (r = -4 ∨ 0 ≤ r)) (fun u_ => [(hM, oB 11 [vi wi, vi hi, .ref mN, .ref mC, vi cm, vi ca, .ref mL, vi sc, vi qu, vi fp, .ref mT, vi lm, vi nw, vi nh, vi nr, .ref mF, .ref mR, .ref mD, .ref mA, vi ii, vi wo, vi wd, vi oe, .ref mK, vi rm, .ref mH, vi cn]), (mN, aI g 145 N)]) [(hM, oB 11 [vi wi, vi hi, .ref mN, .ref mC, vi cm, vi ca, .ref mL, vi sc, vi qu, vi fp, .ref mT, vi lm, vi nw, vi nh, vi nr, .ref mF, .ref mR, .ref mD, .ref mA, vi ii, vi wo, vi wd, vi oe, .ref mK, vi rm, .ref mH, vi cn]), (mN, aI g 145 N)] sz) 0 0 (va_A [(hM, oB 11 [vi wi, vi hi, .ref mN, .ref mC, vi cm, vi ca, .ref mL, vi sc, vi qu, vi fp, .ref mT, vi lm, vi nw, vi nh, vi nr, .ref mF, .ref mR, .ref mD, .ref mA, vi ii, vi wo, vi wd, vi oe, .ref mK, vi rm, .ref mH, vi cn]), (mN, aI g 145 N)] sz) := by
  refine meet (own := RX12) rfl (plainFor_of_name (by decide +kernel)) rfl (fun p_ e_ s_ m_ args_ below_ meth_ c_ C hnm => ?_)
  refine r_at (ws' := [(hM, oB 11 [vi wi, vi hi, .ref mN, .ref mC, vi cm, vi ca, .ref mL, vi sc, vi qu, vi fp, .ref mT, vi lm, vi nw, vi nh, vi nr, .ref mF, .ref mR, .ref mD, .ref mA, vi ii, vi wo, vi wd, vi oe, .ref mK, vi rm, .ref mH, vi cn]), (mN, aI g 145 N)]) (lv' := [(0, .ref hM), (1, vi x), (2, vi y)]) rfl rfl ?_
  refine r_bipush C dX12_nearestOf_0 rfl ?_
  refine r_istore_n C (lv' := [(3, vi (-4)), (0, .ref hM), (1, vi x), (2, vi y)]) dX12_nearestOf_2 rfl rfl ?_
  refine r_iconst C dX12_nearestOf_3 ?_
  refine r_istore C (lv' := [(4, vi 0), (3, vi (-4)), (0, .ref hM), (1, vi x), (2, vi y)]) dX12_nearestOf_4 rfl rfl ?_
  refine r_iconst C dX12_nearestOf_6 ?_
  refine r_istore C (lv' := [(5, vi 0), (4, vi 0), (3, vi (-4)), (0, .ref hM), (1, vi x), (2, vi y)]) dX12_nearestOf_7 rfl rfl ?_
  refine r_lv (lv' := [(0, .ref hM), (1, vi x), (2, vi y), (3, vi (-4)), (4, vi 0), (5, vi 0)]) [3, 4, 5, 2, 1, 0] rfl ?_
  refine r_loop (σ := Int × Int × Int) (fun z_ => (0 ≤ z_.1 ∧ z_.1 ≤ 121) ∧ (-4 ≤ z_.2.1 ∧ z_.2.1 ≤ 120 ∧ (z_.2.1 = -4 ∨ 0 ≤ z_.2.1) ∧ 0 ≤ z_.2.2 ∧ z_.2.2 ≤ 1000) ∧ (NQP N (N 142) x y z_.1 z_.2.1 z_.2.2)) (fun z_ => 121 - z_.1) (fun z_ => [(hM, oB 11 [vi wi, vi hi, .ref mN, .ref mC, vi cm, vi ca, .ref mL, vi sc, vi qu, vi fp, .ref mT, vi lm, vi nw, vi nh, vi nr, .ref mF, .ref mR, .ref mD, .ref mA, vi ii, vi wo, vi wd, vi oe, .ref mK, vi rm, .ref mH, vi cn]), (mN, aI g 145 N)]) (fun z_ => [(0, .ref hM), (1, vi x), (2, vi y), (3, vi z_.2.1), (4, vi z_.2.2), (5, vi z_.1)]) (fun z_ hz => ?_) (fun z_ hz ih_9 => ?_) (((0, -4, 0) : Int × Int × Int)) ?_
  · obtain ⟨k, a, b⟩ := z_
    obtain ⟨jk, jb, ja⟩ := hz
    have jk : 0 ≤ k ∧ k ≤ 121 := jk
    have jb : -4 ≤ a ∧ a ≤ 120 ∧ (a = -4 ∨ 0 ≤ a) ∧ 0 ≤ b ∧ b ≤ 1000 := jb
    have ja : NQP N (N 142) x y k a b := ja
    show (0 : Int) ≤ 121 - k
    omega
  rotate_left
  · show (0 ≤ 0 ∧ 0 ≤ 121) ∧ (-4 ≤ (-4) ∧ (-4) ≤ 120 ∧ ((-4) = -4 ∨ 0 ≤ (-4)) ∧ 0 ≤ 0 ∧ 0 ≤ 1000) ∧ (NQP N (N 142) x y 0 (-4) 0)
    exact ⟨(by decide), (by decide), (Or.inl ⟨rfl, fun k a b => by omega⟩)⟩
  obtain ⟨k, a, b⟩ := z_
  obtain ⟨jk, jb, ja⟩ := hz
  have jk : 0 ≤ k ∧ k ≤ 121 := jk
  have jb : -4 ≤ a ∧ a ≤ 120 ∧ (a = -4 ∨ 0 ≤ a) ∧ 0 ≤ b ∧ b ≤ 1000 := jb
  have ja : NQP N (N 142) x y k a b := ja
  refine r_at (ws' := [(hM, oB 11 [vi wi, vi hi, .ref mN, .ref mC, vi cm, vi ca, .ref mL, vi sc, vi qu, vi fp, .ref mT, vi lm, vi nw, vi nh, vi nr, .ref mF, .ref mR, .ref mD, .ref mA, vi ii, vi wo, vi wd, vi oe, .ref mK, vi rm, .ref mH, vi cn]), (mN, aI g 145 N)]) (lv' := [(0, .ref hM), (1, vi x), (2, vi y), (3, vi a), (4, vi b), (5, vi k)]) rfl rfl ?_
  refine r_iload C dX12_nearestOf_9 5 rfl ?_
  refine r_bipush C dX12_nearestOf_11 rfl ?_
  refine r_icmp_ge C 71 dX12_nearestOf_13 rfl (by omega) (fun c_1 => ?_) (fun c_1 => ?_)
  · skip
    refine r_iload_n C dX12_nearestOf_71 3 rfl ?_
    exact e_i C () dX12_nearestOf_72 (show (∃ ls : Int, NQP N (N 142) x y 121 a ls) ∧ -4 ≤ a ∧ a ≤ 120 ∧ (a = -4 ∨ 0 ≤ a) from ⟨⟨b, (show k = 121 by omega) ▸ ja⟩, by omega, by omega, by omega⟩) rfl
  · skip
    refine r_aload_n C dX12_nearestOf_16 0 rfl ?_
    refine r_iload_n C dX12_nearestOf_17 1 rfl ?_
    refine r_iload_n C dX12_nearestOf_18 2 rfl ?_
    refine r_iload C dX12_nearestOf_19 5 rfl ?_
    refine r_bipush C dX12_nearestOf_21 rfl ?_
    refine r_irem C dX12_nearestOf_23 (by omega) ?_
    refine r_iload C dX12_nearestOf_24 5 rfl ?_
    refine r_bipush C dX12_nearestOf_26 rfl ?_
    refine r_idiv C dX12_nearestOf_28 (by omega) ?_
    refine k_Vi C kv_X12_130 (fun sz => c_X12_apart l g hM wi hi mN mC cm ca mL sc qu fp mT lm nw nh nr mF mR mD mA ii wo wd oe mK rm mH cn N x y (k % 11) (k / 11) nM (by omega) sz) dX12_nearestOf_29 rfl rfl rfl ⟨rfl, rfl⟩ 0 11 rfl rfl rfl [0, 1] rfl rfl (fun _ => rfl) (ws' := fun u_ => [(hM, oB 11 [vi wi, vi hi, .ref mN, .ref mC, vi cm, vi ca, .ref mL, vi sc, vi qu, vi fp, .ref mT, vi lm, vi nw, vi nh, vi nr, .ref mF, .ref mR, .ref mD, .ref mA, vi ii, vi wo, vi wd, vi oe, .ref mK, vi rm, .ref mH, vi cn]), (mN, aI g 145 N)]) (fun _ => rfl) (fun r_29 u_ p_29 => ?_)
    have p_29 : r_29 = dst (N 142) (x - (k % 11)) (y - (k / 11)) := p_29
    have hdk : r_29 = (dst (N 142) (k % 11 - x) (k / 11 - y)) := by rw [p_29, dst_sw]
    have hd1 := dst_nn (N 142) (k % 11 - x) (k / 11 - y)
    have hd2 := dst_ub (m := N 142) (dx := k % 11 - x) (dy := k / 11 - y) (by omega) (by omega) nM
    have e01 := n1 k (by omega) (by omega)
    refine r_istore C (lv' := [(6, vi r_29), (0, .ref hM), (1, vi x), (2, vi y), (3, vi a), (4, vi b), (5, vi k)]) dX12_nearestOf_32 rfl rfl ?_
    refine r_aload_n C dX12_nearestOf_34 1 rfl ?_
    refine gf_X12_7 C dX12_nearestOf_35 0 rfl rfl ?_
    refine r_iload C dX12_nearestOf_38 6 rfl ?_
    refine r_iald C dX12_nearestOf_40 1 rfl rfl (by omega) ?_
    refine r_iconst C dX12_nearestOf_41 ?_
    refine r_icmp_ne C 65 dX12_nearestOf_42 rfl (by omega) (fun c_2 => ?_) (fun c_2 => ?_)
    · skip
      refine r_iinc C (lv' := [(5, vi (k + 1)), (6, vi r_29), (0, .ref hM), (1, vi x), (2, vi y), (3, vi a), (4, vi b)]) dX12_nearestOf_65 6 rfl rfl rfl ?_
      refine r_goto C 9 dX12_nearestOf_68 rfl ?_
      refine r_lv (lv' := [(0, .ref hM), (1, vi x), (2, vi y), (3, vi a), (4, vi b), (5, vi (k + 1))]) [2, 3, 4, 5, 6, 0] rfl ?_
      exact ih_9 (k + 1, a, b) (show (0 ≤ (k + 1) ∧ (k + 1) ≤ 121) ∧ (-4 ≤ a ∧ a ≤ 120 ∧ (a = -4 ∨ 0 ≤ a) ∧ 0 ≤ b ∧ b ≤ 1000) ∧ (NQP N (N 142) x y (k + 1) a b) from ⟨(by omega), (by omega), (NQP_old (fun z => by rw [← hdk]; omega) ja)⟩) (show 121 - (k + 1) < 121 - k from by omega)
    · skip
      refine r_iload_n C dX12_nearestOf_45 4 rfl ?_
      refine r_bipush C dX12_nearestOf_46 rfl ?_
      refine r_icmp_eq C 58 dX12_nearestOf_48 rfl (by omega) (fun c_3 => ?_) (fun c_3 => ?_)
      · skip
        refine r_iload C dX12_nearestOf_58 6 rfl ?_
        refine r_istore_n C (lv' := [(3, vi k), (6, vi r_29), (0, .ref hM), (1, vi x), (2, vi y), (4, vi b), (5, vi k)]) dX12_nearestOf_60 rfl rfl ?_
        refine r_iload C dX12_nearestOf_61 1 rfl ?_
        refine r_istore C (lv' := [(4, vi r_29), (3, vi k), (6, vi r_29), (0, .ref hM), (1, vi x), (2, vi y), (5, vi k)]) dX12_nearestOf_63 rfl rfl ?_
        refine r_iinc C (lv' := [(5, vi (k + 1)), (4, vi r_29), (3, vi k), (6, vi r_29), (0, .ref hM), (1, vi x), (2, vi y)]) dX12_nearestOf_65 6 rfl rfl rfl ?_
        refine r_goto C 9 dX12_nearestOf_68 rfl ?_
        refine r_lv (lv' := [(0, .ref hM), (1, vi x), (2, vi y), (3, vi k), (4, vi r_29), (5, vi (k + 1))]) [4, 5, 6, 2, 1, 0] rfl ?_
        exact ih_9 (k + 1, k, r_29) (show (0 ≤ (k + 1) ∧ (k + 1) ≤ 121) ∧ (-4 ≤ k ∧ k ≤ 120 ∧ (k = -4 ∨ 0 ≤ k) ∧ 0 ≤ r_29 ∧ r_29 ≤ 1000) ∧ (NQP N (N 142) x y (k + 1) k r_29) from ⟨(by omega), (by omega), (by rw [hdk]; exact NQP_new jk.1 (by omega) (by rw [← hdk]; omega) ja)⟩) (show 121 - (k + 1) < 121 - k from by omega)
      · skip
        refine r_iload C dX12_nearestOf_51 0 rfl ?_
        refine r_iload C dX12_nearestOf_53 5 rfl ?_
        refine r_icmp_ge C 65 dX12_nearestOf_55 rfl (by omega) (fun c_4 => ?_) (fun c_4 => ?_)
        · skip
          refine r_iinc C (lv' := [(5, vi (k + 1)), (6, vi r_29), (0, .ref hM), (1, vi x), (2, vi y), (3, vi a), (4, vi b)]) dX12_nearestOf_65 6 rfl rfl rfl ?_
          refine r_goto C 9 dX12_nearestOf_68 rfl ?_
          refine r_lv (lv' := [(0, .ref hM), (1, vi x), (2, vi y), (3, vi a), (4, vi b), (5, vi (k + 1))]) [2, 3, 4, 5, 6, 0] rfl ?_
          exact ih_9 (k + 1, a, b) (show (0 ≤ (k + 1) ∧ (k + 1) ≤ 121) ∧ (-4 ≤ a ∧ a ≤ 120 ∧ (a = -4 ∨ 0 ≤ a) ∧ 0 ≤ b ∧ b ≤ 1000) ∧ (NQP N (N 142) x y (k + 1) a b) from ⟨(by omega), (by omega), (NQP_old (fun z => by rw [← hdk]; omega) ja)⟩) (show 121 - (k + 1) < 121 - k from by omega)
        · skip
          refine r_iload C dX12_nearestOf_58 6 rfl ?_
          refine r_istore_n C (lv' := [(3, vi k), (6, vi r_29), (0, .ref hM), (1, vi x), (2, vi y), (4, vi b), (5, vi k)]) dX12_nearestOf_60 rfl rfl ?_
          refine r_iload C dX12_nearestOf_61 1 rfl ?_
          refine r_istore C (lv' := [(4, vi r_29), (3, vi k), (6, vi r_29), (0, .ref hM), (1, vi x), (2, vi y), (5, vi k)]) dX12_nearestOf_63 rfl rfl ?_
          refine r_iinc C (lv' := [(5, vi (k + 1)), (4, vi r_29), (3, vi k), (6, vi r_29), (0, .ref hM), (1, vi x), (2, vi y)]) dX12_nearestOf_65 6 rfl rfl rfl ?_
          refine r_goto C 9 dX12_nearestOf_68 rfl ?_
          refine r_lv (lv' := [(0, .ref hM), (1, vi x), (2, vi y), (3, vi k), (4, vi r_29), (5, vi (k + 1))]) [4, 5, 6, 2, 1, 0] rfl ?_
          exact ih_9 (k + 1, k, r_29) (show (0 ≤ (k + 1) ∧ (k + 1) ≤ 121) ∧ (-4 ≤ k ∧ k ≤ 120 ∧ (k = -4 ∨ 0 ≤ k) ∧ 0 ≤ r_29 ∧ r_29 ≤ 1000) ∧ (NQP N (N 142) x y (k + 1) k r_29) from ⟨(by omega), (by omega), (by rw [hdk]; exact NQP_new jk.1 (by omega) (by rw [← hdk]; omega) ja)⟩) (show 121 - (k + 1) < 121 - k from by omega)
set_option maxHeartbeats 1000000 in
set_option maxRecDepth 100000 in
theorem c_X12_farOf (l : Launch) (g : Gx) (hM : Nat) (wi : Int) (hi : Int) (mN : Nat) (mC : Nat) (cm : Int) (ca : Int) (mL : Nat) (sc : Int) (qu : Int) (fp : Int) (mT : Nat) (lm : Int) (nw : Int) (nh : Int) (nr : Int) (mF : Nat) (mR : Nat) (mD : Nat) (mA : Nat) (ii : Int) (wo : Int) (wd : Int) (oe : Int) (mK : Nat) (rm : Int) (mH : Nat) (cn : Int) (N : Int → Int) (x : Int) (y : Int) (n1 : ∀ k : Int, 0 ≤ k → k < 121 → N k = 0 ∨ N k = 1) (nM : 0 ≤ N 142 ∧ N 142 ≤ 2) (nC : 1 ≤ N 143 ∧ N 143 ≤ 99) (kxy : -30 ≤ x ∧ x ≤ 30 ∧ -30 ≤ y ∧ y ≤ 30) (sz : Nat) : Met l yX12_farOf (.code yX12_farOf cX12_farOf 5 (some .int) :: wsL_law) { frames := 2, cells := 0, slots := 0, locals := 53 } (PR g [.ref hM, vi x, vi y] [(hM, oB 11 [vi wi, vi hi, .ref mN, .ref mC, vi cm, vi ca, .ref mL, vi sc, vi qu, vi fp, .ref mT, vi lm, vi nw, vi nh, vi nr, .ref mF, .ref mR, .ref mD, .ref mA, vi ii, vi wo, vi wd, vi oe, .ref mK, vi rm, .ref mH, vi cn]), (mN, aI g 145 N)] sz) (PI (S := Unit) g (fun r u_ => r = farS N (N 142) (N 143) x y) (fun u_ => [(hM, oB 11 [vi wi, vi hi, .ref mN, .ref mC, vi cm, vi ca, .ref mL, vi sc, vi qu, vi fp, .ref mT, vi lm, vi nw, vi nh, vi nr, .ref mF, .ref mR, .ref mD, .ref mA, vi ii, vi wo, vi wd, vi oe, .ref mK, vi rm, .ref mH, vi cn]), (mN, aI g 145 N)]) [(hM, oB 11 [vi wi, vi hi, .ref mN, .ref mC, vi cm, vi ca, .ref mL, vi sc, vi qu, vi fp, .ref mT, vi lm, vi nw, vi nh, vi nr, .ref mF, .ref mR, .ref mD, .ref mA, vi ii, vi wo, vi wd, vi oe, .ref mK, vi rm, .ref mH, vi cn]), (mN, aI g 145 N)] sz) 0 0 (va_A [(hM, oB 11 [vi wi, vi hi, .ref mN, .ref mC, vi cm, vi ca, .ref mL, vi sc, vi qu, vi fp, .ref mT, vi lm, vi nw, vi nh, vi nr, .ref mF, .ref mR, .ref mD, .ref mA, vi ii, vi wo, vi wd, vi oe, .ref mK, vi rm, .ref mH, vi cn]), (mN, aI g 145 N)] sz) := by
  refine meet (own := RX12) rfl (plainFor_of_name (by decide +kernel)) rfl (fun p_ e_ s_ m_ args_ below_ meth_ c_ C hnm => ?_)
  refine r_at (ws' := [(hM, oB 11 [vi wi, vi hi, .ref mN, .ref mC, vi cm, vi ca, .ref mL, vi sc, vi qu, vi fp, .ref mT, vi lm, vi nw, vi nh, vi nr, .ref mF, .ref mR, .ref mD, .ref mA, vi ii, vi wo, vi wd, vi oe, .ref mK, vi rm, .ref mH, vi cn]), (mN, aI g 145 N)]) (lv' := [(0, .ref hM), (1, vi x), (2, vi y)]) rfl rfl ?_
  refine r_aload_n C dX12_farOf_0 0 rfl ?_
  refine r_iload_n C dX12_farOf_1 1 rfl ?_
  refine r_iload_n C dX12_farOf_2 2 rfl ?_
  refine k_Vi C kv_X12_134 (fun sz => c_X12_nearestOf l g hM wi hi mN mC cm ca mL sc qu fp mT lm nw nh nr mF mR mD mA ii wo wd oe mK rm mH cn N x y n1 nM kxy sz) dX12_farOf_3 rfl rfl rfl ⟨rfl, rfl⟩ 0 11 rfl rfl rfl [0, 1] rfl rfl (fun _ => rfl) (ws' := fun u_ => [(hM, oB 11 [vi wi, vi hi, .ref mN, .ref mC, vi cm, vi ca, .ref mL, vi sc, vi qu, vi fp, .ref mT, vi lm, vi nw, vi nh, vi nr, .ref mF, .ref mR, .ref mD, .ref mA, vi ii, vi wo, vi wd, vi oe, .ref mK, vi rm, .ref mH, vi cn]), (mN, aI g 145 N)]) (fun _ => rfl) (fun r_3 u_ p_3 => ?_)
  have p_3 : (∃ ls : Int, NQP N (N 142) x y 121 r_3 ls) ∧ -4 ≤ r_3 ∧ r_3 ≤ 120 ∧ (r_3 = -4 ∨ 0 ≤ r_3) := p_3
  obtain ⟨⟨ls, hq⟩, hr1, hr2, hr3⟩ := p_3
  have hfar := NQP_far (c := N 143) hq
  refine r_istore_n C (lv' := [(3, vi r_3), (0, .ref hM), (1, vi x), (2, vi y)]) dX12_farOf_6 rfl rfl ?_
  refine r_iload_n C dX12_farOf_7 0 rfl ?_
  refine r_bipush C dX12_farOf_8 rfl ?_
  refine r_icmp_ne C 24 dX12_farOf_10 rfl (by omega) (fun c_1 => ?_) (fun c_1 => ?_)
  · skip
    refine r_aload_n C dX12_farOf_24 1 rfl ?_
    refine r_iload_n C dX12_farOf_25 2 rfl ?_
    refine r_iload_n C dX12_farOf_26 3 rfl ?_
    refine r_iload_n C dX12_farOf_27 0 rfl ?_
    refine r_bipush C dX12_farOf_28 rfl ?_
    refine r_irem C dX12_farOf_30 (by omega) ?_
    refine r_iload_n C dX12_farOf_31 0 rfl ?_
    refine r_bipush C dX12_farOf_32 rfl ?_
    refine r_idiv C dX12_farOf_34 (by omega) ?_
    refine k_Vi C kv_X12_130 (fun sz => c_X12_apart l g hM wi hi mN mC cm ca mL sc qu fp mT lm nw nh nr mF mR mD mA ii wo wd oe mK rm mH cn N x y (r_3 % 11) (r_3 / 11) nM (by omega) sz) dX12_farOf_35 rfl rfl rfl ⟨rfl, rfl⟩ 0 11 rfl rfl rfl [0, 1] rfl rfl (fun _ => rfl) (ws' := fun u_ => [(hM, oB 11 [vi wi, vi hi, .ref mN, .ref mC, vi cm, vi ca, .ref mL, vi sc, vi qu, vi fp, .ref mT, vi lm, vi nw, vi nh, vi nr, .ref mF, .ref mR, .ref mD, .ref mA, vi ii, vi wo, vi wd, vi oe, .ref mK, vi rm, .ref mH, vi cn]), (mN, aI g 145 N)]) (fun _ => rfl) (fun r_35 u_ p_35 => ?_)
    have p_35 : r_35 = dst (N 142) (x - (r_3 % 11)) (y - (r_3 / 11)) := p_35
    have hdk : r_35 = dst (N 142) (r_3 % 11 - x) (r_3 / 11 - y) := by rw [p_35, dst_sw]
    have hd2 := dst_ub (m := N 142) (dx := r_3 % 11 - x) (dy := r_3 / 11 - y) (by omega) (by omega) nM
    have hd1 := dst_nn (N 142) (r_3 % 11 - x) (r_3 / 11 - y)
    refine r_istore C (lv' := [(4, vi r_35), (3, vi r_3), (0, .ref hM), (1, vi x), (2, vi y)]) dX12_farOf_38 rfl rfl ?_
    refine r_iload C dX12_farOf_40 0 rfl ?_
    refine r_aload_n C dX12_farOf_42 2 rfl ?_
    refine gf_X12_7 C dX12_farOf_43 0 rfl rfl ?_
    refine r_sipush C dX12_farOf_46 rfl ?_
    refine r_iald C dX12_farOf_49 1 rfl rfl (by omega) ?_
    refine r_icmp_ge C 58 dX12_farOf_50 rfl (by omega) (fun c_2 => ?_) (fun c_2 => ?_)
    · skip
      refine r_aload_n C dX12_farOf_58 2 rfl ?_
      refine gf_X12_7 C dX12_farOf_59 0 rfl rfl ?_
      refine r_sipush C dX12_farOf_62 rfl ?_
      refine r_iald C dX12_farOf_65 1 rfl rfl (by omega) ?_
      exact e_i C () dX12_farOf_66 (show (N 143) = farS N (N 142) (N 143) x y from by rw [hfar]; first | (rw [if_pos (by omega)]; done) | (rw [if_pos (by omega)]; omega) | (rw [if_neg (by omega)]; omega)) rfl
    · skip
      refine r_iload C dX12_farOf_53 0 rfl ?_
      refine r_goto C 66 dX12_farOf_55 rfl ?_
      exact e_i C () dX12_farOf_66 (show r_35 = farS N (N 142) (N 143) x y from by rw [hfar]; first | (rw [if_pos (by omega)]; done) | (rw [if_pos (by omega)]; omega) | (rw [if_neg (by omega)]; omega)) rfl
  · skip
    refine r_aload_n C dX12_farOf_13 1 rfl ?_
    refine gf_X12_7 C dX12_farOf_14 0 rfl rfl ?_
    refine r_sipush C dX12_farOf_17 rfl ?_
    refine r_iald C dX12_farOf_20 1 rfl rfl (by omega) ?_
    refine r_goto C 38 dX12_farOf_21 rfl ?_
    have hd2 := dst_ub (m := N 142) (dx := r_3 % 11 - x) (dy := r_3 / 11 - y) (by omega) (by omega) nM
    have hd1 := dst_nn (N 142) (r_3 % 11 - x) (r_3 / 11 - y)
    refine r_istore C (lv' := [(4, vi (N 143)), (3, vi r_3), (0, .ref hM), (1, vi x), (2, vi y)]) dX12_farOf_38 rfl rfl ?_
    refine r_iload C dX12_farOf_40 0 rfl ?_
    refine r_aload_n C dX12_farOf_42 2 rfl ?_
    refine gf_X12_7 C dX12_farOf_43 0 rfl rfl ?_
    refine r_sipush C dX12_farOf_46 rfl ?_
    refine r_iald C dX12_farOf_49 1 rfl rfl (by omega) ?_
    refine r_icmp_ge C 58 dX12_farOf_50 rfl (by omega) (fun c_3 => ?_) (fun c_3 => ?_)
    · skip
      refine r_aload_n C dX12_farOf_58 2 rfl ?_
      refine gf_X12_7 C dX12_farOf_59 0 rfl rfl ?_
      refine r_sipush C dX12_farOf_62 rfl ?_
      refine r_iald C dX12_farOf_65 1 rfl rfl (by omega) ?_
      exact e_i C () dX12_farOf_66 (show (N 143) = farS N (N 142) (N 143) x y from by rw [hfar]; first | (rw [if_pos (by omega)]; done) | (rw [if_pos (by omega)]; omega) | (rw [if_neg (by omega)]; omega)) rfl
    · skip
      refine r_iload C dX12_farOf_53 0 rfl ?_
      refine r_goto C 66 dX12_farOf_55 rfl ?_
      exact e_i C () dX12_farOf_66 (show (N 143) = farS N (N 142) (N 143) x y from by rw [hfar]; first | (rw [if_pos (by omega)]; done) | (rw [if_pos (by omega)]; omega) | (rw [if_neg (by omega)]; omega)) rfl
set_option maxHeartbeats 1000000 in
set_option maxRecDepth 100000 in
theorem c_X12_cell (l : Launch) (g : Gx) (hM : Nat) (wi : Int) (hi : Int) (mN : Nat) (mC : Nat) (cm : Int) (ca : Int) (mL : Nat) (sc : Int) (qu : Int) (fp : Int) (mT : Nat) (lm : Int) (nw : Int) (nh : Int) (nr : Int) (mF : Nat) (mR : Nat) (mD : Nat) (mA : Nat) (ii : Int) (wo : Int) (wd : Int) (oe : Int) (mK : Nat) (rm : Int) (mH : Nat) (cn : Int) (N : Int → Int) (x : Int) (y : Int) (nW : 4 ≤ wi ∧ wi ≤ 11) (nH : 4 ≤ hi ∧ hi ≤ 11) (bbx : -2147483648 ≤ x ∧ x ≤ 2147483647) (bby : -2147483648 ≤ y ∧ y ≤ 2147483647) (sz : Nat) : Met l yX12_cell (.code yX12_cell cX12_cell 3 (some .int) :: wsL_law) { frames := 2, cells := 0, slots := 0, locals := 44 } (PR g [.ref hM, vi x, vi y] [(hM, oB 11 [vi wi, vi hi, .ref mN, .ref mC, vi cm, vi ca, .ref mL, vi sc, vi qu, vi fp, .ref mT, vi lm, vi nw, vi nh, vi nr, .ref mF, .ref mR, .ref mD, .ref mA, vi ii, vi wo, vi wd, vi oe, .ref mK, vi rm, .ref mH, vi cn]), (mN, aI g 145 N)] sz) (PI (S := Unit) g (fun r u_ => r = if 0 ≤ x ∧ x < wi ∧ 0 ≤ y ∧ y < hi then N (11 * y + x) else -1) (fun u_ => [(hM, oB 11 [vi wi, vi hi, .ref mN, .ref mC, vi cm, vi ca, .ref mL, vi sc, vi qu, vi fp, .ref mT, vi lm, vi nw, vi nh, vi nr, .ref mF, .ref mR, .ref mD, .ref mA, vi ii, vi wo, vi wd, vi oe, .ref mK, vi rm, .ref mH, vi cn]), (mN, aI g 145 N)]) [(hM, oB 11 [vi wi, vi hi, .ref mN, .ref mC, vi cm, vi ca, .ref mL, vi sc, vi qu, vi fp, .ref mT, vi lm, vi nw, vi nh, vi nr, .ref mF, .ref mR, .ref mD, .ref mA, vi ii, vi wo, vi wd, vi oe, .ref mK, vi rm, .ref mH, vi cn]), (mN, aI g 145 N)] sz) 0 0 (va_A [(hM, oB 11 [vi wi, vi hi, .ref mN, .ref mC, vi cm, vi ca, .ref mL, vi sc, vi qu, vi fp, .ref mT, vi lm, vi nw, vi nh, vi nr, .ref mF, .ref mR, .ref mD, .ref mA, vi ii, vi wo, vi wd, vi oe, .ref mK, vi rm, .ref mH, vi cn]), (mN, aI g 145 N)] sz) := by
  refine meet (own := RX12) rfl (plainFor_of_name (by decide +kernel)) rfl (fun p_ e_ s_ m_ args_ below_ meth_ c_ C hnm => ?_)
  refine r_at (ws' := [(hM, oB 11 [vi wi, vi hi, .ref mN, .ref mC, vi cm, vi ca, .ref mL, vi sc, vi qu, vi fp, .ref mT, vi lm, vi nw, vi nh, vi nr, .ref mF, .ref mR, .ref mD, .ref mA, vi ii, vi wo, vi wd, vi oe, .ref mK, vi rm, .ref mH, vi cn]), (mN, aI g 145 N)]) (lv' := [(0, .ref hM), (1, vi x), (2, vi y)]) rfl rfl ?_
  refine r_aload_n C dX12_cell_0 0 rfl ?_
  refine r_iload_n C dX12_cell_1 1 rfl ?_
  refine r_iload_n C dX12_cell_2 2 rfl ?_
  refine k_Vi C kv_X12_120 (fun sz => c_X12_isCell l g hM wi hi mN mC cm ca mL sc qu fp mT lm nw nh nr mF mR mD mA ii wo wd oe mK rm mH cn x y nW nH (by omega) (by omega) sz) dX12_cell_3 rfl rfl rfl ⟨rfl, rfl⟩ 0 11 rfl rfl rfl [0] rfl rfl (fun _ => rfl) (ws' := fun u_ => [(hM, oB 11 [vi wi, vi hi, .ref mN, .ref mC, vi cm, vi ca, .ref mL, vi sc, vi qu, vi fp, .ref mT, vi lm, vi nw, vi nh, vi nr, .ref mF, .ref mR, .ref mD, .ref mA, vi ii, vi wo, vi wd, vi oe, .ref mK, vi rm, .ref mH, vi cn]), (mN, aI g 145 N)]) (fun _ => rfl) (fun r_3 u_ p_3 => ?_)
  have p_3 : (r_3 = 1 ∧ 0 ≤ x ∧ x < wi ∧ 0 ≤ y ∧ y < hi) ∨ (r_3 = 0 ∧ ¬ (0 ≤ x ∧ x < wi ∧ 0 ≤ y ∧ y < hi)) := p_3
  refine r_if_eq C 22 dX12_cell_6 rfl (by omega) (fun c_1 => ?_) (fun c_1 => ?_)
  · skip
    refine r_iconst C dX12_cell_22 ?_
    exact e_i C () dX12_cell_23 (show (-1) = if 0 ≤ x ∧ x < wi ∧ 0 ≤ y ∧ y < hi then N (11 * y + x) else -1 from by first | rw [if_pos (by omega)] | rw [if_neg (by omega)]) rfl
  · skip
    refine r_aload_n C dX12_cell_9 0 rfl ?_
    refine gf_X12_7 C dX12_cell_10 0 rfl rfl ?_
    refine r_iload_n C dX12_cell_13 1 rfl ?_
    refine r_iload_n C dX12_cell_14 2 rfl ?_
    refine k_Si C ks_X12_50 (fun sz => c_X12_at l g x y sz) dX12_cell_15 rfl rfl rfl ⟨rfl, rfl⟩ [] rfl rfl (fun _ => rfl) (ws' := fun u_ => [(hM, oB 11 [vi wi, vi hi, .ref mN, .ref mC, vi cm, vi ca, .ref mL, vi sc, vi qu, vi fp, .ref mT, vi lm, vi nw, vi nh, vi nr, .ref mF, .ref mR, .ref mD, .ref mA, vi ii, vi wo, vi wd, vi oe, .ref mK, vi rm, .ref mH, vi cn]), (mN, aI g 145 N)]) (fun _ => rfl) (fun r_15 u_ p_15 => ?_)
    have p_15 : r_15 = 11 * y + x := p_15
    refine r_eq (y := (11 * y + x)) p_15 ?_
    refine r_iald C dX12_cell_18 1 rfl rfl (by omega) ?_
    refine r_goto C 23 dX12_cell_19 rfl ?_
    exact e_i C () dX12_cell_23 (show (N (11 * y + x)) = if 0 ≤ x ∧ x < wi ∧ 0 ≤ y ∧ y < hi then N (11 * y + x) else -1 from by first | rw [if_pos (by omega)] | rw [if_neg (by omega)]) rfl
set_option maxHeartbeats 1000000 in
set_option maxRecDepth 100000 in
theorem c_X12_far (l : Launch) (g : Gx) (hM : Nat) (wi : Int) (hi : Int) (mN : Nat) (mC : Nat) (cm : Int) (ca : Int) (mL : Nat) (sc : Int) (qu : Int) (fp : Int) (mT : Nat) (lm : Int) (nw : Int) (nh : Int) (nr : Int) (mF : Nat) (mR : Nat) (mD : Nat) (mA : Nat) (ii : Int) (wo : Int) (wd : Int) (oe : Int) (mK : Nat) (rm : Int) (mH : Nat) (cn : Int) (N : Int → Int) (x : Int) (y : Int) (hN : MOK wi hi N) (bbx : -2147483648 ≤ x ∧ x ≤ 2147483647) (bby : -2147483648 ≤ y ∧ y ≤ 2147483647) (sz : Nat) : Met l yX12_far (.code yX12_far cX12_far 3 (some .int) :: wsL_law) { frames := 3, cells := 0, slots := 0, locals := 77 } (PR g [.ref hM, vi x, vi y] [(hM, oB 11 [vi wi, vi hi, .ref mN, .ref mC, vi cm, vi ca, .ref mL, vi sc, vi qu, vi fp, .ref mT, vi lm, vi nw, vi nh, vi nr, .ref mF, .ref mR, .ref mD, .ref mA, vi ii, vi wo, vi wd, vi oe, .ref mK, vi rm, .ref mH, vi cn]), (mN, aI g 145 N)] sz) (PI (S := Unit) g (fun r u_ => r = if 0 ≤ x ∧ x < wi ∧ 0 ≤ y ∧ y < hi then farS N (N 142) (N 143) x y else -1) (fun u_ => [(hM, oB 11 [vi wi, vi hi, .ref mN, .ref mC, vi cm, vi ca, .ref mL, vi sc, vi qu, vi fp, .ref mT, vi lm, vi nw, vi nh, vi nr, .ref mF, .ref mR, .ref mD, .ref mA, vi ii, vi wo, vi wd, vi oe, .ref mK, vi rm, .ref mH, vi cn]), (mN, aI g 145 N)]) [(hM, oB 11 [vi wi, vi hi, .ref mN, .ref mC, vi cm, vi ca, .ref mL, vi sc, vi qu, vi fp, .ref mT, vi lm, vi nw, vi nh, vi nr, .ref mF, .ref mR, .ref mD, .ref mA, vi ii, vi wo, vi wd, vi oe, .ref mK, vi rm, .ref mH, vi cn]), (mN, aI g 145 N)] sz) 0 0 (va_A [(hM, oB 11 [vi wi, vi hi, .ref mN, .ref mC, vi cm, vi ca, .ref mL, vi sc, vi qu, vi fp, .ref mT, vi lm, vi nw, vi nh, vi nr, .ref mF, .ref mR, .ref mD, .ref mA, vi ii, vi wo, vi wd, vi oe, .ref mK, vi rm, .ref mH, vi cn]), (mN, aI g 145 N)] sz) := by
  refine meet (own := RX12) rfl (plainFor_of_name (by decide +kernel)) rfl (fun p_ e_ s_ m_ args_ below_ meth_ c_ C hnm => ?_)
  refine r_at (ws' := [(hM, oB 11 [vi wi, vi hi, .ref mN, .ref mC, vi cm, vi ca, .ref mL, vi sc, vi qu, vi fp, .ref mT, vi lm, vi nw, vi nh, vi nr, .ref mF, .ref mR, .ref mD, .ref mA, vi ii, vi wo, vi wd, vi oe, .ref mK, vi rm, .ref mH, vi cn]), (mN, aI g 145 N)]) (lv' := [(0, .ref hM), (1, vi x), (2, vi y)]) rfl rfl ?_
  obtain ⟨nW, nH, n1, nO, nn, nX, nY, nM, nC, nT⟩ := id hN
  refine r_aload_n C dX12_far_0 0 rfl ?_
  refine r_iload_n C dX12_far_1 1 rfl ?_
  refine r_iload_n C dX12_far_2 2 rfl ?_
  refine k_Vi C kv_X12_120 (fun sz => c_X12_isCell l g hM wi hi mN mC cm ca mL sc qu fp mT lm nw nh nr mF mR mD mA ii wo wd oe mK rm mH cn x y nW nH (by omega) (by omega) sz) dX12_far_3 rfl rfl rfl ⟨rfl, rfl⟩ 0 11 rfl rfl rfl [0] rfl rfl (fun _ => rfl) (ws' := fun u_ => [(hM, oB 11 [vi wi, vi hi, .ref mN, .ref mC, vi cm, vi ca, .ref mL, vi sc, vi qu, vi fp, .ref mT, vi lm, vi nw, vi nh, vi nr, .ref mF, .ref mR, .ref mD, .ref mA, vi ii, vi wo, vi wd, vi oe, .ref mK, vi rm, .ref mH, vi cn]), (mN, aI g 145 N)]) (fun _ => rfl) (fun r_3 u_ p_3 => ?_)
  have p_3 : (r_3 = 1 ∧ 0 ≤ x ∧ x < wi ∧ 0 ≤ y ∧ y < hi) ∨ (r_3 = 0 ∧ ¬ (0 ≤ x ∧ x < wi ∧ 0 ≤ y ∧ y < hi)) := p_3
  refine r_if_eq C 18 dX12_far_6 rfl (by omega) (fun c_1 => ?_) (fun c_1 => ?_)
  · skip
    refine r_iconst C dX12_far_18 ?_
    exact e_i C () dX12_far_19 (show (-1) = if 0 ≤ x ∧ x < wi ∧ 0 ≤ y ∧ y < hi then farS N (N 142) (N 143) x y else -1 from by rw [if_neg (by omega)]) rfl
  · skip
    refine r_aload_n C dX12_far_9 0 rfl ?_
    refine r_iload_n C dX12_far_10 1 rfl ?_
    refine r_iload_n C dX12_far_11 2 rfl ?_
    refine k_Vi C kv_X12_137 (fun sz => c_X12_farOf l g hM wi hi mN mC cm ca mL sc qu fp mT lm nw nh nr mF mR mD mA ii wo wd oe mK rm mH cn N x y n1 nM nC (by omega) sz) dX12_far_12 rfl rfl rfl ⟨rfl, rfl⟩ 0 11 rfl rfl rfl [0, 1] rfl rfl (fun _ => rfl) (ws' := fun u_ => [(hM, oB 11 [vi wi, vi hi, .ref mN, .ref mC, vi cm, vi ca, .ref mL, vi sc, vi qu, vi fp, .ref mT, vi lm, vi nw, vi nh, vi nr, .ref mF, .ref mR, .ref mD, .ref mA, vi ii, vi wo, vi wd, vi oe, .ref mK, vi rm, .ref mH, vi cn]), (mN, aI g 145 N)]) (fun _ => rfl) (fun r_12 u_ p_12 => ?_)
    have p_12 : r_12 = farS N (N 142) (N 143) x y := p_12
    refine r_goto C 19 dX12_far_15 rfl ?_
    exact e_i C () dX12_far_19 (show r_12 = if 0 ≤ x ∧ x < wi ∧ 0 ≤ y ∧ y < hi then farS N (N 142) (N 143) x y else -1 from by rw [if_pos (by omega)]; exact p_12) rfl
set_option maxHeartbeats 1000000 in
set_option maxRecDepth 100000 in
theorem c_X12_nearest (l : Launch) (g : Gx) (hM : Nat) (wi : Int) (hi : Int) (mN : Nat) (mC : Nat) (cm : Int) (ca : Int) (mL : Nat) (sc : Int) (qu : Int) (fp : Int) (mT : Nat) (lm : Int) (nw : Int) (nh : Int) (nr : Int) (mF : Nat) (mR : Nat) (mD : Nat) (mA : Nat) (ii : Int) (wo : Int) (wd : Int) (oe : Int) (mK : Nat) (rm : Int) (mH : Nat) (cn : Int) (N : Int → Int) (x : Int) (y : Int) (hN : MOK wi hi N) (bbx : -2147483648 ≤ x ∧ x ≤ 2147483647) (bby : -2147483648 ≤ y ∧ y ≤ 2147483647) (sz : Nat) : Met l yX12_nearest (.code yX12_nearest cX12_nearest 4 (some .int) :: wsL_law) { frames := 2, cells := 0, slots := 0, locals := 53 } (PR g [.ref hM, vi x, vi y] [(hM, oB 11 [vi wi, vi hi, .ref mN, .ref mC, vi cm, vi ca, .ref mL, vi sc, vi qu, vi fp, .ref mT, vi lm, vi nw, vi nh, vi nr, .ref mF, .ref mR, .ref mD, .ref mA, vi ii, vi wo, vi wd, vi oe, .ref mK, vi rm, .ref mH, vi cn]), (mN, aI g 145 N)] sz) (PI (S := Unit) g (fun r u_ => (¬ (0 ≤ x ∧ x < wi ∧ 0 ≤ y ∧ y < hi) ∧ r = -1) ∨ ((0 ≤ x ∧ x < wi ∧ 0 ≤ y ∧ y < hi) ∧ NRS N (N 142) x y r)) (fun u_ => [(hM, oB 11 [vi wi, vi hi, .ref mN, .ref mC, vi cm, vi ca, .ref mL, vi sc, vi qu, vi fp, .ref mT, vi lm, vi nw, vi nh, vi nr, .ref mF, .ref mR, .ref mD, .ref mA, vi ii, vi wo, vi wd, vi oe, .ref mK, vi rm, .ref mH, vi cn]), (mN, aI g 145 N)]) [(hM, oB 11 [vi wi, vi hi, .ref mN, .ref mC, vi cm, vi ca, .ref mL, vi sc, vi qu, vi fp, .ref mT, vi lm, vi nw, vi nh, vi nr, .ref mF, .ref mR, .ref mD, .ref mA, vi ii, vi wo, vi wd, vi oe, .ref mK, vi rm, .ref mH, vi cn]), (mN, aI g 145 N)] sz) 0 0 (va_A [(hM, oB 11 [vi wi, vi hi, .ref mN, .ref mC, vi cm, vi ca, .ref mL, vi sc, vi qu, vi fp, .ref mT, vi lm, vi nw, vi nh, vi nr, .ref mF, .ref mR, .ref mD, .ref mA, vi ii, vi wo, vi wd, vi oe, .ref mK, vi rm, .ref mH, vi cn]), (mN, aI g 145 N)] sz) := by
  refine meet (own := RX12) rfl (plainFor_of_name (by decide +kernel)) rfl (fun p_ e_ s_ m_ args_ below_ meth_ c_ C hnm => ?_)
  refine r_at (ws' := [(hM, oB 11 [vi wi, vi hi, .ref mN, .ref mC, vi cm, vi ca, .ref mL, vi sc, vi qu, vi fp, .ref mT, vi lm, vi nw, vi nh, vi nr, .ref mF, .ref mR, .ref mD, .ref mA, vi ii, vi wo, vi wd, vi oe, .ref mK, vi rm, .ref mH, vi cn]), (mN, aI g 145 N)]) (lv' := [(0, .ref hM), (1, vi x), (2, vi y)]) rfl rfl ?_
  obtain ⟨nW, nH, n1, nO, nn, nX, nY, nM, nC, nT⟩ := id hN
  refine r_aload_n C dX12_nearest_0 0 rfl ?_
  refine r_iload_n C dX12_nearest_1 1 rfl ?_
  refine r_iload_n C dX12_nearest_2 2 rfl ?_
  refine k_Vi C kv_X12_120 (fun sz => c_X12_isCell l g hM wi hi mN mC cm ca mL sc qu fp mT lm nw nh nr mF mR mD mA ii wo wd oe mK rm mH cn x y nW nH (by omega) (by omega) sz) dX12_nearest_3 rfl rfl rfl ⟨rfl, rfl⟩ 0 11 rfl rfl rfl [0] rfl rfl (fun _ => rfl) (ws' := fun u_ => [(hM, oB 11 [vi wi, vi hi, .ref mN, .ref mC, vi cm, vi ca, .ref mL, vi sc, vi qu, vi fp, .ref mT, vi lm, vi nw, vi nh, vi nr, .ref mF, .ref mR, .ref mD, .ref mA, vi ii, vi wo, vi wd, vi oe, .ref mK, vi rm, .ref mH, vi cn]), (mN, aI g 145 N)]) (fun _ => rfl) (fun r_3 u_ p_3 => ?_)
  have p_3 : (r_3 = 1 ∧ 0 ≤ x ∧ x < wi ∧ 0 ≤ y ∧ y < hi) ∨ (r_3 = 0 ∧ ¬ (0 ≤ x ∧ x < wi ∧ 0 ≤ y ∧ y < hi)) := p_3
  refine r_if_ne C 11 dX12_nearest_6 rfl (by omega) (fun c_1 => ?_) (fun c_1 => ?_)
  · skip
    refine r_aload_n C dX12_nearest_11 0 rfl ?_
    refine r_iload_n C dX12_nearest_12 1 rfl ?_
    refine r_iload_n C dX12_nearest_13 2 rfl ?_
    refine k_Vi C kv_X12_134 (fun sz => c_X12_nearestOf l g hM wi hi mN mC cm ca mL sc qu fp mT lm nw nh nr mF mR mD mA ii wo wd oe mK rm mH cn N x y n1 nM (by omega) sz) dX12_nearest_14 rfl rfl rfl ⟨rfl, rfl⟩ 0 11 rfl rfl rfl [0, 1] rfl rfl (fun _ => rfl) (ws' := fun u_ => [(hM, oB 11 [vi wi, vi hi, .ref mN, .ref mC, vi cm, vi ca, .ref mL, vi sc, vi qu, vi fp, .ref mT, vi lm, vi nw, vi nh, vi nr, .ref mF, .ref mR, .ref mD, .ref mA, vi ii, vi wo, vi wd, vi oe, .ref mK, vi rm, .ref mH, vi cn]), (mN, aI g 145 N)]) (fun _ => rfl) (fun r_14 u_ p_14 => ?_)
    have p_14 : (∃ ls : Int, NQP N (N 142) x y 121 r_14 ls) ∧ -4 ≤ r_14 ∧ r_14 ≤ 120 ∧ (r_14 = -4 ∨ 0 ≤ r_14) := p_14
    obtain ⟨⟨ls, hq⟩, hr1, hr2, hr3⟩ := p_14
    have hne := NQP_end hq
    refine r_istore_n C (lv' := [(3, vi r_14), (0, .ref hM), (1, vi x), (2, vi y)]) dX12_nearest_17 rfl rfl ?_
    refine r_iload_n C dX12_nearest_18 0 rfl ?_
    refine r_bipush C dX12_nearest_19 rfl ?_
    refine r_icmp_ne C 29 dX12_nearest_21 rfl (by omega) (fun c_2 => ?_) (fun c_2 => ?_)
    · skip
      refine r_bipush C dX12_nearest_29 rfl ?_
      refine r_iload_n C dX12_nearest_31 0 rfl ?_
      refine r_bipush C dX12_nearest_32 rfl ?_
      refine r_idiv C dX12_nearest_34 (by omega) ?_
      refine r_imul C dX12_nearest_35 ?_
      refine r_iload_n C dX12_nearest_36 0 rfl ?_
      refine r_bipush C dX12_nearest_37 rfl ?_
      refine r_irem C dX12_nearest_39 (by omega) ?_
      refine r_iadd C dX12_nearest_40 ?_
      exact e_i C () dX12_nearest_41 (show (¬ (0 ≤ x ∧ x < wi ∧ 0 ≤ y ∧ y < hi) ∧ ((100 * (r_14 / 11)) + (r_14 % 11)) = -1) ∨ ((0 ≤ x ∧ x < wi ∧ 0 ≤ y ∧ y < hi) ∧ NRS N (N 142) x y ((100 * (r_14 / 11)) + (r_14 % 11))) from Or.inr ⟨by omega, by rw [if_neg (by omega)] at hne; exact hne⟩) rfl
    · skip
      refine r_bipush C dX12_nearest_24 rfl ?_
      refine r_goto C 41 dX12_nearest_26 rfl ?_
      exact e_i C () dX12_nearest_41 (show (¬ (0 ≤ x ∧ x < wi ∧ 0 ≤ y ∧ y < hi) ∧ (-4) = -1) ∨ ((0 ≤ x ∧ x < wi ∧ 0 ≤ y ∧ y < hi) ∧ NRS N (N 142) x y (-4)) from Or.inr ⟨by omega, by rw [if_pos (by omega)] at hne; exact hne⟩) rfl
  · skip
    refine r_iconst C dX12_nearest_9 ?_
    exact e_i C () dX12_nearest_10 (show (¬ (0 ≤ x ∧ x < wi ∧ 0 ≤ y ∧ y < hi) ∧ (-1) = -1) ∨ ((0 ≤ x ∧ x < wi ∧ 0 ≤ y ∧ y < hi) ∧ NRS N (N 142) x y (-1)) from Or.inl ⟨by omega, rfl⟩) rfl
set_option maxHeartbeats 1000000 in
set_option maxRecDepth 100000 in
theorem c_X12_rings (l : Launch) (g : Gx) (hM : Nat) (wi : Int) (hi : Int) (mN : Nat) (mC : Nat) (cm : Int) (ca : Int) (mL : Nat) (sc : Int) (qu : Int) (fp : Int) (mT : Nat) (lm : Int) (nw : Int) (nh : Int) (nr : Int) (mF : Nat) (mR : Nat) (mD : Nat) (mA : Nat) (ii : Int) (wo : Int) (wd : Int) (oe : Int) (mK : Nat) (rm : Int) (mH : Nat) (cn : Int) (N : Int → Int) (n : Int) (hN : MOK wi hi N) (bbn : -2147483648 ≤ n ∧ n ≤ 2147483647) (sz : Nat) : Met l yX12_rings (.code yX12_rings cX12_rings 5 (some .int) :: wsL_law) { frames := 3, cells := 0, slots := 0, locals := 77 } (PR g [.ref hM, vi n] [(hM, oB 11 [vi wi, vi hi, .ref mN, .ref mC, vi cm, vi ca, .ref mL, vi sc, vi qu, vi fp, .ref mT, vi lm, vi nw, vi nh, vi nr, .ref mF, .ref mR, .ref mD, .ref mA, vi ii, vi wo, vi wd, vi oe, .ref mK, vi rm, .ref mH, vi cn]), (mN, aI g 145 N)] sz) (PI (S := Unit) g (fun r u_ => r = if 0 ≤ n ∧ n ≤ 99 then sum2 wi hi (fun p9 q9 => if farS N (N 142) (N 143) p9 q9 = n then 1 else 0) else -1) (fun u_ => [(hM, oB 11 [vi wi, vi hi, .ref mN, .ref mC, vi cm, vi ca, .ref mL, vi sc, vi qu, vi fp, .ref mT, vi lm, vi nw, vi nh, vi nr, .ref mF, .ref mR, .ref mD, .ref mA, vi ii, vi wo, vi wd, vi oe, .ref mK, vi rm, .ref mH, vi cn]), (mN, aI g 145 N)]) [(hM, oB 11 [vi wi, vi hi, .ref mN, .ref mC, vi cm, vi ca, .ref mL, vi sc, vi qu, vi fp, .ref mT, vi lm, vi nw, vi nh, vi nr, .ref mF, .ref mR, .ref mD, .ref mA, vi ii, vi wo, vi wd, vi oe, .ref mK, vi rm, .ref mH, vi cn]), (mN, aI g 145 N)] sz) 0 0 (va_A [(hM, oB 11 [vi wi, vi hi, .ref mN, .ref mC, vi cm, vi ca, .ref mL, vi sc, vi qu, vi fp, .ref mT, vi lm, vi nw, vi nh, vi nr, .ref mF, .ref mR, .ref mD, .ref mA, vi ii, vi wo, vi wd, vi oe, .ref mK, vi rm, .ref mH, vi cn]), (mN, aI g 145 N)] sz) := by
  refine meet (own := RX12) rfl (plainFor_of_name (by decide +kernel)) rfl (fun p_ e_ s_ m_ args_ below_ meth_ c_ C hnm => ?_)
  refine r_at (ws' := [(hM, oB 11 [vi wi, vi hi, .ref mN, .ref mC, vi cm, vi ca, .ref mL, vi sc, vi qu, vi fp, .ref mT, vi lm, vi nw, vi nh, vi nr, .ref mF, .ref mR, .ref mD, .ref mA, vi ii, vi wo, vi wd, vi oe, .ref mK, vi rm, .ref mH, vi cn]), (mN, aI g 145 N)]) (lv' := [(0, .ref hM), (1, vi n)]) rfl rfl ?_
  obtain ⟨nW, nH, n1, nO, nn, nX, nY, nM, nC, nT⟩ := id hN
  refine r_iload_n C dX12_rings_0 1 rfl ?_
  refine r_iconst C dX12_rings_1 ?_
  refine r_bipush C dX12_rings_2 rfl ?_
  refine k_Si C ks_X12_58 (fun sz => c_X12_in l g n 0 99 (by omega) (by omega) (by omega) sz) dX12_rings_4 rfl rfl rfl ⟨rfl, rfl⟩ [] rfl rfl (fun _ => rfl) (ws' := fun u_ => [(hM, oB 11 [vi wi, vi hi, .ref mN, .ref mC, vi cm, vi ca, .ref mL, vi sc, vi qu, vi fp, .ref mT, vi lm, vi nw, vi nh, vi nr, .ref mF, .ref mR, .ref mD, .ref mA, vi ii, vi wo, vi wd, vi oe, .ref mK, vi rm, .ref mH, vi cn]), (mN, aI g 145 N)]) (fun _ => rfl) (fun r_4 u_ p_4 => ?_)
  have p_4 : (r_4 = 1 ∧ 0 ≤ n ∧ n ≤ 99) ∨ (r_4 = 0 ∧ ¬ (0 ≤ n ∧ n ≤ 99)) := p_4
  refine r_if_ne C 12 dX12_rings_7 rfl (by omega) (fun c_1 => ?_) (fun c_1 => ?_)
  · skip
    refine r_iconst C dX12_rings_12 ?_
    refine r_istore_n C (lv' := [(2, vi 0), (0, .ref hM), (1, vi n)]) dX12_rings_13 rfl rfl ?_
    refine r_iconst C dX12_rings_14 ?_
    refine r_istore_n C (lv' := [(3, vi 0), (2, vi 0), (0, .ref hM), (1, vi n)]) dX12_rings_15 rfl rfl ?_
    refine r_lv (lv' := [(0, .ref hM), (1, vi n), (2, vi 0), (3, vi 0)]) [2, 3, 1, 0] rfl ?_
    refine r_loop (σ := Int × Int) (fun z_ => (0 ≤ z_.1 ∧ z_.1 ≤ hi) ∧ (z_.2 = sI (fun v => sI (fun u => (fun p9 q9 => if farS N (N 142) (N 143) p9 q9 = n then 1 else 0) u v) wi) z_.1)) (fun z_ => hi - z_.1) (fun z_ => [(hM, oB 11 [vi wi, vi hi, .ref mN, .ref mC, vi cm, vi ca, .ref mL, vi sc, vi qu, vi fp, .ref mT, vi lm, vi nw, vi nh, vi nr, .ref mF, .ref mR, .ref mD, .ref mA, vi ii, vi wo, vi wd, vi oe, .ref mK, vi rm, .ref mH, vi cn]), (mN, aI g 145 N)]) (fun z_ => [(0, .ref hM), (1, vi n), (2, vi z_.2), (3, vi z_.1)]) (fun z_ hz => ?_) (fun z_ hz ih_16 => ?_) (((0, 0) : Int × Int)) ?_
    · obtain ⟨y, a⟩ := z_
      obtain ⟨jy, ja⟩ := hz
      have jy : 0 ≤ y ∧ y ≤ hi := jy
      have ja : a = sI (fun v => sI (fun u => (fun p9 q9 => if farS N (N 142) (N 143) p9 q9 = n then 1 else 0) u v) wi) y := ja
      show (0 : Int) ≤ hi - y
      omega
    rotate_left
    · show (0 ≤ 0 ∧ 0 ≤ hi) ∧ (0 = sI (fun v => sI (fun u => (fun p9 q9 => if farS N (N 142) (N 143) p9 q9 = n then 1 else 0) u v) wi) 0)
      exact ⟨(by omega), (rfl)⟩
    obtain ⟨y, a⟩ := z_
    obtain ⟨jy, ja⟩ := hz
    have jy : 0 ≤ y ∧ y ≤ hi := jy
    have ja : a = sI (fun v => sI (fun u => (fun p9 q9 => if farS N (N 142) (N 143) p9 q9 = n then 1 else 0) u v) wi) y := ja
    refine r_at (ws' := [(hM, oB 11 [vi wi, vi hi, .ref mN, .ref mC, vi cm, vi ca, .ref mL, vi sc, vi qu, vi fp, .ref mT, vi lm, vi nw, vi nh, vi nr, .ref mF, .ref mR, .ref mD, .ref mA, vi ii, vi wo, vi wd, vi oe, .ref mK, vi rm, .ref mH, vi cn]), (mN, aI g 145 N)]) (lv' := [(0, .ref hM), (1, vi n), (2, vi a), (3, vi y)]) rfl rfl ?_
    refine r_iload_n C dX12_rings_16 3 rfl ?_
    refine r_aload_n C dX12_rings_17 0 rfl ?_
    refine gf_X12_47 C dX12_rings_18 0 rfl rfl ?_
    refine r_icmp_ge C 67 dX12_rings_21 rfl (by omega) (fun c_2 => ?_) (fun c_2 => ?_)
    · skip
      refine r_iload_n C dX12_rings_67 2 rfl ?_
      exact e_i C () dX12_rings_68 (show a = if 0 ≤ n ∧ n ≤ 99 then sum2 wi hi (fun p9 q9 => if farS N (N 142) (N 143) p9 q9 = n then 1 else 0) else -1 from by rw [if_pos (by omega)]; unfold sum2; rw [show y = hi by omega] at ja; exact ja) rfl
    · skip
      refine r_iconst C dX12_rings_24 ?_
      refine r_istore C (lv' := [(4, vi 0), (0, .ref hM), (1, vi n), (2, vi a), (3, vi y)]) dX12_rings_25 rfl rfl ?_
      refine r_lv (lv' := [(0, .ref hM), (1, vi n), (2, vi a), (3, vi y), (4, vi 0)]) [1, 2, 3, 4, 0] rfl ?_
      refine r_loop (σ := Int × Int) (fun z_ => (0 ≤ z_.1 ∧ z_.1 ≤ wi) ∧ (z_.2 = a + sI (fun u => (fun p9 q9 => if farS N (N 142) (N 143) p9 q9 = n then 1 else 0) u y) z_.1)) (fun z_ => wi - z_.1) (fun z_ => [(hM, oB 11 [vi wi, vi hi, .ref mN, .ref mC, vi cm, vi ca, .ref mL, vi sc, vi qu, vi fp, .ref mT, vi lm, vi nw, vi nh, vi nr, .ref mF, .ref mR, .ref mD, .ref mA, vi ii, vi wo, vi wd, vi oe, .ref mK, vi rm, .ref mH, vi cn]), (mN, aI g 145 N)]) (fun z_ => [(0, .ref hM), (1, vi n), (2, vi z_.2), (3, vi y), (4, vi z_.1)]) (fun z_ hz => ?_) (fun z_ hz ih_27 => ?_) (((0, a) : Int × Int)) ?_
      · obtain ⟨x, b⟩ := z_
        obtain ⟨jx, jb⟩ := hz
        have jx : 0 ≤ x ∧ x ≤ wi := jx
        have jb : b = a + sI (fun u => (fun p9 q9 => if farS N (N 142) (N 143) p9 q9 = n then 1 else 0) u y) x := jb
        show (0 : Int) ≤ wi - x
        omega
      rotate_left
      · show (0 ≤ 0 ∧ 0 ≤ wi) ∧ (a = a + sI (fun u => (fun p9 q9 => if farS N (N 142) (N 143) p9 q9 = n then 1 else 0) u y) 0)
        exact ⟨(by omega), (by rw [sI_0]; omega)⟩
      obtain ⟨x, b⟩ := z_
      obtain ⟨jx, jb⟩ := hz
      have jx : 0 ≤ x ∧ x ≤ wi := jx
      have jb : b = a + sI (fun u => (fun p9 q9 => if farS N (N 142) (N 143) p9 q9 = n then 1 else 0) u y) x := jb
      refine r_at (ws' := [(hM, oB 11 [vi wi, vi hi, .ref mN, .ref mC, vi cm, vi ca, .ref mL, vi sc, vi qu, vi fp, .ref mT, vi lm, vi nw, vi nh, vi nr, .ref mF, .ref mR, .ref mD, .ref mA, vi ii, vi wo, vi wd, vi oe, .ref mK, vi rm, .ref mH, vi cn]), (mN, aI g 145 N)]) (lv' := [(0, .ref hM), (1, vi n), (2, vi b), (3, vi y), (4, vi x)]) rfl rfl ?_
      refine r_iload C dX12_rings_27 4 rfl ?_
      refine r_aload_n C dX12_rings_29 0 rfl ?_
      refine gf_X12_44 C dX12_rings_30 0 rfl rfl ?_
      refine r_icmp_ge C 61 dX12_rings_33 rfl (by omega) (fun c_3 => ?_) (fun c_3 => ?_)
      · skip
        refine r_iinc C (lv' := [(3, vi (y + 1)), (0, .ref hM), (1, vi n), (2, vi b), (4, vi x)]) dX12_rings_61 3 rfl rfl rfl ?_
        refine r_goto C 16 dX12_rings_64 rfl ?_
        refine r_lv (lv' := [(0, .ref hM), (1, vi n), (2, vi b), (3, vi (y + 1))]) [1, 2, 3, 0] rfl ?_
        exact ih_16 (y + 1, b) (show (0 ≤ (y + 1) ∧ (y + 1) ≤ hi) ∧ (b = sI (fun v => sI (fun u => (fun p9 q9 => if farS N (N 142) (N 143) p9 q9 = n then 1 else 0) u v) wi) (y + 1)) from ⟨(by omega), (by rw [sI_s _ jy.1, jb, ← ja, show wi = x by omega])⟩) (show hi - (y + 1) < hi - y from by omega)
      · skip
        refine r_iload_n C dX12_rings_36 2 rfl ?_
        refine r_aload_n C dX12_rings_37 0 rfl ?_
        refine r_iload C dX12_rings_38 4 rfl ?_
        refine r_iload_n C dX12_rings_40 3 rfl ?_
        refine k_Vi C kv_X12_137 (fun sz => c_X12_farOf l g hM wi hi mN mC cm ca mL sc qu fp mT lm nw nh nr mF mR mD mA ii wo wd oe mK rm mH cn N x y n1 nM nC (by omega) sz) dX12_rings_41 rfl rfl rfl ⟨rfl, rfl⟩ 0 11 rfl rfl rfl [0, 1] rfl rfl (fun _ => rfl) (ws' := fun u_ => [(hM, oB 11 [vi wi, vi hi, .ref mN, .ref mC, vi cm, vi ca, .ref mL, vi sc, vi qu, vi fp, .ref mT, vi lm, vi nw, vi nh, vi nr, .ref mF, .ref mR, .ref mD, .ref mA, vi ii, vi wo, vi wd, vi oe, .ref mK, vi rm, .ref mH, vi cn]), (mN, aI g 145 N)]) (fun _ => rfl) (fun r_41 u_ p_41 => ?_)
        have p_41 : r_41 = farS N (N 142) (N 143) x y := p_41
        have hf1 := farS_nn (E := N) (m := N 142) (c := N 143) (x := x) (y := y) (by omega)
        have hf2 := farS_c N (N 142) (N 143) x y
        refine r_iload_n C dX12_rings_44 1 rfl ?_
        refine r_icmp_ne C 52 dX12_rings_45 rfl (by omega) (fun c_4 => ?_) (fun c_4 => ?_)
        · skip
          refine r_iconst C dX12_rings_52 ?_
          refine r_iadd C dX12_rings_53 ?_
          refine r_istore_n C (lv' := [(2, vi (b + 0)), (0, .ref hM), (1, vi n), (3, vi y), (4, vi x)]) dX12_rings_54 rfl rfl ?_
          refine r_iinc C (lv' := [(4, vi (x + 1)), (2, vi (b + 0)), (0, .ref hM), (1, vi n), (3, vi y)]) dX12_rings_55 4 rfl rfl rfl ?_
          refine r_goto C 27 dX12_rings_58 rfl ?_
          refine r_lv (lv' := [(0, .ref hM), (1, vi n), (2, vi (b + 0)), (3, vi y), (4, vi (x + 1))]) [2, 3, 1, 4, 0] rfl ?_
          exact ih_27 (x + 1, b + 0) (show (0 ≤ (x + 1) ∧ (x + 1) ≤ wi) ∧ ((b + 0) = a + sI (fun u => (fun p9 q9 => if farS N (N 142) (N 143) p9 q9 = n then 1 else 0) u y) (x + 1)) from ⟨(by omega), (by rw [sI_s _ jx.1, jb]; show _ = _ + (_ + if farS N (N 142) (N 143) x y = n then 1 else 0); rw [← p_41]; omega)⟩) (show wi - (x + 1) < wi - x from by omega)
        · skip
          refine r_iconst C dX12_rings_48 ?_
          refine r_goto C 53 dX12_rings_49 rfl ?_
          refine r_iadd C dX12_rings_53 ?_
          refine r_istore_n C (lv' := [(2, vi (b + 1)), (0, .ref hM), (1, vi n), (3, vi y), (4, vi x)]) dX12_rings_54 rfl rfl ?_
          refine r_iinc C (lv' := [(4, vi (x + 1)), (2, vi (b + 1)), (0, .ref hM), (1, vi n), (3, vi y)]) dX12_rings_55 4 rfl rfl rfl ?_
          refine r_goto C 27 dX12_rings_58 rfl ?_
          refine r_lv (lv' := [(0, .ref hM), (1, vi n), (2, vi (b + 1)), (3, vi y), (4, vi (x + 1))]) [2, 3, 1, 4, 0] rfl ?_
          exact ih_27 (x + 1, b + 1) (show (0 ≤ (x + 1) ∧ (x + 1) ≤ wi) ∧ ((b + 1) = a + sI (fun u => (fun p9 q9 => if farS N (N 142) (N 143) p9 q9 = n then 1 else 0) u y) (x + 1)) from ⟨(by omega), (by rw [sI_s _ jx.1, jb]; show _ = _ + (_ + if farS N (N 142) (N 143) x y = n then 1 else 0); rw [← p_41]; omega)⟩) (show wi - (x + 1) < wi - x from by omega)
  · skip
    refine r_iconst C dX12_rings_10 ?_
    exact e_i C () dX12_rings_11 (show (-1) = if 0 ≤ n ∧ n ≤ 99 then sum2 wi hi (fun p9 q9 => if farS N (N 142) (N 143) p9 q9 = n then 1 else 0) else -1 from by rw [if_neg (by omega)]) rfl
set_option maxHeartbeats 1000000 in
set_option maxRecDepth 100000 in
theorem c_X12_laysFars (l : Launch) (g : Gx) (hM : Nat) (wi : Int) (hi : Int) (mN : Nat) (mC : Nat) (cm : Int) (ca : Int) (mL : Nat) (sc : Int) (qu : Int) (fp : Int) (mT : Nat) (lm : Int) (nw : Int) (nh : Int) (nr : Int) (mF : Nat) (mR : Nat) (mD : Nat) (mA : Nat) (ii : Int) (wo : Int) (wd : Int) (oe : Int) (mK : Nat) (rm : Int) (mH : Nat) (cn : Int) (N : Int → Int) (Fa : Int → Int) (hN : MOK wi hi N) (kFa : ∀ k : Int, 0 ≤ k → k < 121 → -2147483648 ≤ Fa k ∧ Fa k ≤ 2147483647) (sz : Nat) : Met l yX12_laysFars (.code yX12_laysFars cX12_laysFars 3 none :: wsL_law) { frames := 3, cells := 0, slots := 0, locals := 77 } (PR g [.ref hM] [(hM, oB 11 [vi wi, vi hi, .ref mN, .ref mC, vi cm, vi ca, .ref mL, vi sc, vi qu, vi fp, .ref mT, vi lm, vi nw, vi nh, vi nr, .ref mF, .ref mR, .ref mD, .ref mA, vi ii, vi wo, vi wd, vi oe, .ref mK, vi rm, .ref mH, vi cn]), (mN, aI g 145 N), (mA, aI g 121 Fa)] sz) (PV (S := (Int → Int)) g (fun u_ => FAM wi hi N u_ ∧ ∀ k : Int, 0 ≤ k → k < 121 → -2147483648 ≤ u_ k ∧ u_ k ≤ 2147483647) (fun u_ => [(hM, oB 11 [vi wi, vi hi, .ref mN, .ref mC, vi cm, vi ca, .ref mL, vi sc, vi qu, vi fp, .ref mT, vi lm, vi nw, vi nh, vi nr, .ref mF, .ref mR, .ref mD, .ref mA, vi ii, vi wo, vi wd, vi oe, .ref mK, vi rm, .ref mH, vi cn]), (mN, aI g 145 N), (mA, aI g 121 u_)]) [(hM, oB 11 [vi wi, vi hi, .ref mN, .ref mC, vi cm, vi ca, .ref mL, vi sc, vi qu, vi fp, .ref mT, vi lm, vi nw, vi nh, vi nr, .ref mF, .ref mR, .ref mD, .ref mA, vi ii, vi wo, vi wd, vi oe, .ref mK, vi rm, .ref mH, vi cn]), (mN, aI g 145 N), (mA, aI g 121 Fa)] sz) 0 0 (va_A [(hM, oB 11 [vi wi, vi hi, .ref mN, .ref mC, vi cm, vi ca, .ref mL, vi sc, vi qu, vi fp, .ref mT, vi lm, vi nw, vi nh, vi nr, .ref mF, .ref mR, .ref mD, .ref mA, vi ii, vi wo, vi wd, vi oe, .ref mK, vi rm, .ref mH, vi cn]), (mN, aI g 145 N), (mA, aI g 121 Fa)] sz) := by
  refine meet (own := RX12) rfl (plainFor_of_name (by decide +kernel)) rfl (fun p_ e_ s_ m_ args_ below_ meth_ c_ C hnm => ?_)
  refine r_at (ws' := [(hM, oB 11 [vi wi, vi hi, .ref mN, .ref mC, vi cm, vi ca, .ref mL, vi sc, vi qu, vi fp, .ref mT, vi lm, vi nw, vi nh, vi nr, .ref mF, .ref mR, .ref mD, .ref mA, vi ii, vi wo, vi wd, vi oe, .ref mK, vi rm, .ref mH, vi cn]), (mN, aI g 145 N), (mA, aI g 121 Fa)]) (lv' := [(0, .ref hM)]) rfl rfl ?_
  obtain ⟨nW, nH, n1, nO, nn, nX, nY, nM, nC, nT⟩ := id hN
  refine r_iconst C dX12_laysFars_0 ?_
  refine r_istore_n C (lv' := [(1, vi 0), (0, .ref hM)]) dX12_laysFars_1 rfl rfl ?_
  refine r_lv (lv' := [(0, .ref hM), (1, vi 0)]) [1, 0] rfl ?_
  refine r_loop (σ := Int × (Int → Int)) (fun z_ => (0 ≤ z_.1 ∧ z_.1 ≤ hi) ∧ (∀ u v : Int, 0 ≤ u → u < wi → 0 ≤ v → v < z_.1 → z_.2 (11 * v + u) = farS N (N 142) (N 143) u v) ∧ (∀ k : Int, 0 ≤ k → k < 121 → -2147483648 ≤ z_.2 k ∧ z_.2 k ≤ 2147483647)) (fun z_ => hi - z_.1) (fun z_ => [(hM, oB 11 [vi wi, vi hi, .ref mN, .ref mC, vi cm, vi ca, .ref mL, vi sc, vi qu, vi fp, .ref mT, vi lm, vi nw, vi nh, vi nr, .ref mF, .ref mR, .ref mD, .ref mA, vi ii, vi wo, vi wd, vi oe, .ref mK, vi rm, .ref mH, vi cn]), (mN, aI g 145 N), (mA, aI g 121 z_.2)]) (fun z_ => [(0, .ref hM), (1, vi z_.1)]) (fun z_ hz => ?_) (fun z_ hz ih_2 => ?_) (((0, Fa) : Int × (Int → Int))) ?_
  · obtain ⟨y, P⟩ := z_
    obtain ⟨jy, jP, jB⟩ := hz
    have jy : 0 ≤ y ∧ y ≤ hi := jy
    have jP : ∀ u v : Int, 0 ≤ u → u < wi → 0 ≤ v → v < y → P (11 * v + u) = farS N (N 142) (N 143) u v := jP
    have jB : ∀ k : Int, 0 ≤ k → k < 121 → -2147483648 ≤ P k ∧ P k ≤ 2147483647 := jB
    show (0 : Int) ≤ hi - y
    omega
  rotate_left
  · show (0 ≤ 0 ∧ 0 ≤ hi) ∧ (∀ u v : Int, 0 ≤ u → u < wi → 0 ≤ v → v < 0 → Fa (11 * v + u) = farS N (N 142) (N 143) u v) ∧ (∀ k : Int, 0 ≤ k → k < 121 → -2147483648 ≤ Fa k ∧ Fa k ≤ 2147483647)
    exact ⟨(by omega), (fun u v a b c d => by omega), (kFa)⟩
  obtain ⟨y, P⟩ := z_
  obtain ⟨jy, jP, jB⟩ := hz
  have jy : 0 ≤ y ∧ y ≤ hi := jy
  have jP : ∀ u v : Int, 0 ≤ u → u < wi → 0 ≤ v → v < y → P (11 * v + u) = farS N (N 142) (N 143) u v := jP
  have jB : ∀ k : Int, 0 ≤ k → k < 121 → -2147483648 ≤ P k ∧ P k ≤ 2147483647 := jB
  refine r_at (ws' := [(hM, oB 11 [vi wi, vi hi, .ref mN, .ref mC, vi cm, vi ca, .ref mL, vi sc, vi qu, vi fp, .ref mT, vi lm, vi nw, vi nh, vi nr, .ref mF, .ref mR, .ref mD, .ref mA, vi ii, vi wo, vi wd, vi oe, .ref mK, vi rm, .ref mH, vi cn]), (mN, aI g 145 N), (mA, aI g 121 P)]) (lv' := [(0, .ref hM), (1, vi y)]) rfl rfl ?_
  refine r_iload_n C dX12_laysFars_2 1 rfl ?_
  refine r_aload_n C dX12_laysFars_3 0 rfl ?_
  refine gf_X12_47 C dX12_laysFars_4 0 rfl rfl ?_
  refine r_icmp_ge C 48 dX12_laysFars_7 rfl (by omega) (fun c_1 => ?_) (fun c_1 => ?_)
  · skip
    exact e_v C P dX12_laysFars_48 (show FAM wi hi N P ∧ ∀ k : Int, 0 ≤ k → k < 121 → -2147483648 ≤ P k ∧ P k ≤ 2147483647 from ⟨fun u v a b c d => jP u v a b c (by omega), jB⟩) rfl
  · skip
    refine r_iconst C dX12_laysFars_10 ?_
    refine r_istore_n C (lv' := [(2, vi 0), (0, .ref hM), (1, vi y)]) dX12_laysFars_11 rfl rfl ?_
    refine r_lv (lv' := [(0, .ref hM), (1, vi y), (2, vi 0)]) [1, 2, 0] rfl ?_
    refine r_loop (σ := Int × (Int → Int)) (fun z_ => (0 ≤ z_.1 ∧ z_.1 ≤ wi) ∧ (∀ u v : Int, 0 ≤ u → u < wi → 0 ≤ v → (v < y ∨ v = y ∧ u < z_.1) → z_.2 (11 * v + u) = farS N (N 142) (N 143) u v) ∧ (∀ k : Int, 0 ≤ k → k < 121 → -2147483648 ≤ z_.2 k ∧ z_.2 k ≤ 2147483647)) (fun z_ => wi - z_.1) (fun z_ => [(hM, oB 11 [vi wi, vi hi, .ref mN, .ref mC, vi cm, vi ca, .ref mL, vi sc, vi qu, vi fp, .ref mT, vi lm, vi nw, vi nh, vi nr, .ref mF, .ref mR, .ref mD, .ref mA, vi ii, vi wo, vi wd, vi oe, .ref mK, vi rm, .ref mH, vi cn]), (mN, aI g 145 N), (mA, aI g 121 z_.2)]) (fun z_ => [(0, .ref hM), (1, vi y), (2, vi z_.1)]) (fun z_ hz => ?_) (fun z_ hz ih_12 => ?_) (((0, P) : Int × (Int → Int))) ?_
    · obtain ⟨x, Q⟩ := z_
      obtain ⟨jx, jQ, jC⟩ := hz
      have jx : 0 ≤ x ∧ x ≤ wi := jx
      have jQ : ∀ u v : Int, 0 ≤ u → u < wi → 0 ≤ v → (v < y ∨ v = y ∧ u < x) → Q (11 * v + u) = farS N (N 142) (N 143) u v := jQ
      have jC : ∀ k : Int, 0 ≤ k → k < 121 → -2147483648 ≤ Q k ∧ Q k ≤ 2147483647 := jC
      show (0 : Int) ≤ wi - x
      omega
    rotate_left
    · show (0 ≤ 0 ∧ 0 ≤ wi) ∧ (∀ u v : Int, 0 ≤ u → u < wi → 0 ≤ v → (v < y ∨ v = y ∧ u < 0) → P (11 * v + u) = farS N (N 142) (N 143) u v) ∧ (∀ k : Int, 0 ≤ k → k < 121 → -2147483648 ≤ P k ∧ P k ≤ 2147483647)
      exact ⟨(by omega), (fun u v a b c d => jP u v a b c (by omega)), (jB)⟩
    obtain ⟨x, Q⟩ := z_
    obtain ⟨jx, jQ, jC⟩ := hz
    have jx : 0 ≤ x ∧ x ≤ wi := jx
    have jQ : ∀ u v : Int, 0 ≤ u → u < wi → 0 ≤ v → (v < y ∨ v = y ∧ u < x) → Q (11 * v + u) = farS N (N 142) (N 143) u v := jQ
    have jC : ∀ k : Int, 0 ≤ k → k < 121 → -2147483648 ≤ Q k ∧ Q k ≤ 2147483647 := jC
    refine r_at (ws' := [(hM, oB 11 [vi wi, vi hi, .ref mN, .ref mC, vi cm, vi ca, .ref mL, vi sc, vi qu, vi fp, .ref mT, vi lm, vi nw, vi nh, vi nr, .ref mF, .ref mR, .ref mD, .ref mA, vi ii, vi wo, vi wd, vi oe, .ref mK, vi rm, .ref mH, vi cn]), (mN, aI g 145 N), (mA, aI g 121 Q)]) (lv' := [(0, .ref hM), (1, vi y), (2, vi x)]) rfl rfl ?_
    refine r_iload_n C dX12_laysFars_12 2 rfl ?_
    refine r_aload_n C dX12_laysFars_13 0 rfl ?_
    refine gf_X12_44 C dX12_laysFars_14 0 rfl rfl ?_
    refine r_icmp_ge C 42 dX12_laysFars_17 rfl (by omega) (fun c_2 => ?_) (fun c_2 => ?_)
    · skip
      refine r_iinc C (lv' := [(1, vi (y + 1)), (0, .ref hM), (2, vi x)]) dX12_laysFars_42 1 rfl rfl rfl ?_
      refine r_goto C 2 dX12_laysFars_45 rfl ?_
      refine r_lv (lv' := [(0, .ref hM), (1, vi (y + 1))]) [1, 0] rfl ?_
      exact ih_2 (y + 1, Q) (show (0 ≤ (y + 1) ∧ (y + 1) ≤ hi) ∧ (∀ u v : Int, 0 ≤ u → u < wi → 0 ≤ v → v < (y + 1) → Q (11 * v + u) = farS N (N 142) (N 143) u v) ∧ (∀ k : Int, 0 ≤ k → k < 121 → -2147483648 ≤ Q k ∧ Q k ≤ 2147483647) from ⟨(by omega), (fun u v a b c d => jQ u v a b c (by omega)), (jC)⟩) (show hi - (y + 1) < hi - y from by omega)
    · skip
      refine r_aload_n C dX12_laysFars_20 0 rfl ?_
      refine gf_X12_35 C dX12_laysFars_21 0 rfl rfl ?_
      refine r_iload_n C dX12_laysFars_24 2 rfl ?_
      refine r_iload_n C dX12_laysFars_25 1 rfl ?_
      refine k_Si C ks_X12_50 (fun sz => c_X12_at l g x y sz) dX12_laysFars_26 rfl rfl rfl ⟨rfl, rfl⟩ [] rfl rfl (fun _ => rfl) (ws' := fun u_ => [(hM, oB 11 [vi wi, vi hi, .ref mN, .ref mC, vi cm, vi ca, .ref mL, vi sc, vi qu, vi fp, .ref mT, vi lm, vi nw, vi nh, vi nr, .ref mF, .ref mR, .ref mD, .ref mA, vi ii, vi wo, vi wd, vi oe, .ref mK, vi rm, .ref mH, vi cn]), (mN, aI g 145 N), (mA, aI g 121 Q)]) (fun _ => rfl) (fun r_26 u_ p_26 => ?_)
      have p_26 : r_26 = 11 * y + x := p_26
      refine r_eq (y := (11 * y + x)) p_26 ?_
      refine r_aload_n C dX12_laysFars_29 0 rfl ?_
      refine r_iload_n C dX12_laysFars_30 2 rfl ?_
      refine r_iload_n C dX12_laysFars_31 1 rfl ?_
      refine k_Vi C kv_X12_137 (fun sz => c_X12_farOf l g hM wi hi mN mC cm ca mL sc qu fp mT lm nw nh nr mF mR mD mA ii wo wd oe mK rm mH cn N x y n1 nM nC (by omega) sz) dX12_laysFars_32 rfl rfl rfl ⟨rfl, rfl⟩ 0 11 rfl rfl rfl [0, 1] rfl rfl (fun _ => rfl) (ws' := fun u_ => [(hM, oB 11 [vi wi, vi hi, .ref mN, .ref mC, vi cm, vi ca, .ref mL, vi sc, vi qu, vi fp, .ref mT, vi lm, vi nw, vi nh, vi nr, .ref mF, .ref mR, .ref mD, .ref mA, vi ii, vi wo, vi wd, vi oe, .ref mK, vi rm, .ref mH, vi cn]), (mN, aI g 145 N), (mA, aI g 121 Q)]) (fun _ => rfl) (fun r_32 u_ p_32 => ?_)
      have p_32 : r_32 = farS N (N 142) (N 143) x y := p_32
      refine r_iast C (ws' := [(hM, oB 11 [vi wi, vi hi, .ref mN, .ref mC, vi cm, vi ca, .ref mL, vi sc, vi qu, vi fp, .ref mT, vi lm, vi nw, vi nh, vi nr, .ref mF, .ref mR, .ref mD, .ref mA, vi ii, vi wo, vi wd, vi oe, .ref mK, vi rm, .ref mH, vi cn]), (mN, aI g 145 N), (mA, aI g 121 (zU Q (11 * y + x) r_32))]) dX12_laysFars_35 2 rfl rfl (by omega) rfl ?_
      refine r_iinc C (lv' := [(2, vi (x + 1)), (0, .ref hM), (1, vi y)]) dX12_laysFars_36 2 rfl rfl rfl ?_
      refine r_goto C 12 dX12_laysFars_39 rfl ?_
      refine r_lv (lv' := [(0, .ref hM), (1, vi y), (2, vi (x + 1))]) [1, 2, 0] rfl ?_
      exact ih_12 (x + 1, zU Q (11 * y + x) r_32) (show (0 ≤ (x + 1) ∧ (x + 1) ≤ wi) ∧ (∀ u v : Int, 0 ≤ u → u < wi → 0 ≤ v → (v < y ∨ v = y ∧ u < (x + 1)) → (zU Q (11 * y + x) r_32) (11 * v + u) = farS N (N 142) (N 143) u v) ∧ (∀ k : Int, 0 ≤ k → k < 121 → -2147483648 ≤ (zU Q (11 * y + x) r_32) k ∧ (zU Q (11 * y + x) r_32) k ≤ 2147483647) from ⟨(by omega), (fun u v a b c d => by
      by_cases e : u = x ∧ v = y
      · rw [e.1, e.2, zU_eq]; exact p_32
      · rw [zU_ne _ _ (by omega)]; exact jQ u v a b c (by omega)), (zU_bd jC (by have := farS_nn (E := N) (m := N 142) (c := N 143) (x := x) (y := y) (by omega); have := farS_c N (N 142) (N 143) x y; omega))⟩) (show wi - (x + 1) < wi - x from by omega)
set_option maxHeartbeats 1000000 in
set_option maxRecDepth 100000 in
theorem c_X12_turn (l : Launch) (g : Gx) (hM : Nat) (wi : Int) (hi : Int) (mN : Nat) (mC : Nat) (cm : Int) (ca : Int) (mL : Nat) (sc : Int) (qu : Int) (fp : Int) (mT : Nat) (lm : Int) (nw : Int) (nh : Int) (nr : Int) (mF : Nat) (mR : Nat) (mD : Nat) (mA : Nat) (ii : Int) (wo : Int) (wd : Int) (oe : Int) (mK : Nat) (rm : Int) (mH : Nat) (cn : Int) (s : Int) (t : Int) (q : Int) (bbs : -2147483648 ≤ s ∧ s ≤ 2147483647) (bbt : -2147483648 ≤ t ∧ t ≤ 2147483647) (bbq : -2147483648 ≤ q ∧ q ≤ 2147483647) (sz : Nat) : Met l yX12_turn (.code yX12_turn cX12_turn 4 (some .int) :: wsL_law) { frames := 1, cells := 0, slots := 0, locals := 22 } (PR g [.ref hM, vi s, vi t, vi q] [(hM, oB 11 [vi wi, vi hi, .ref mN, .ref mC, vi cm, vi ca, .ref mL, vi sc, vi qu, vi fp, .ref mT, vi lm, vi nw, vi nh, vi nr, .ref mF, .ref mR, .ref mD, .ref mA, vi ii, vi wo, vi wd, vi oe, .ref mK, vi rm, .ref mH, vi cn])] sz) (PI (S := Int × Int × Int) g (fun r u_ => (r = -1 ∧ ¬ (2 ≤ s ∧ s ≤ 4 ∧ 0 ≤ t ∧ t ≤ 3 ∧ 0 ≤ q ∧ q ≤ 1) ∧ u_.1 = sc ∧ u_.2.1 = qu ∧ u_.2.2 = fp) ∨ (r = 0 ∧ (2 ≤ s ∧ s ≤ 4 ∧ 0 ≤ t ∧ t ≤ 3 ∧ 0 ≤ q ∧ q ≤ 1) ∧ u_.1 = s ∧ u_.2.1 = t ∧ u_.2.2 = q)) (fun u_ => [(hM, oB 11 [vi wi, vi hi, .ref mN, .ref mC, vi cm, vi ca, .ref mL, vi u_.1, vi u_.2.1, vi u_.2.2, .ref mT, vi lm, vi nw, vi nh, vi nr, .ref mF, .ref mR, .ref mD, .ref mA, vi ii, vi wo, vi wd, vi oe, .ref mK, vi rm, .ref mH, vi cn])]) [(hM, oB 11 [vi wi, vi hi, .ref mN, .ref mC, vi cm, vi ca, .ref mL, vi sc, vi qu, vi fp, .ref mT, vi lm, vi nw, vi nh, vi nr, .ref mF, .ref mR, .ref mD, .ref mA, vi ii, vi wo, vi wd, vi oe, .ref mK, vi rm, .ref mH, vi cn])] sz) 0 0 (va_A [(hM, oB 11 [vi wi, vi hi, .ref mN, .ref mC, vi cm, vi ca, .ref mL, vi sc, vi qu, vi fp, .ref mT, vi lm, vi nw, vi nh, vi nr, .ref mF, .ref mR, .ref mD, .ref mA, vi ii, vi wo, vi wd, vi oe, .ref mK, vi rm, .ref mH, vi cn])] sz) := by
  refine meet (own := RX12) rfl (plainFor_of_name (by decide +kernel)) rfl (fun p_ e_ s_ m_ args_ below_ meth_ c_ C hnm => ?_)
  refine r_at (ws' := [(hM, oB 11 [vi wi, vi hi, .ref mN, .ref mC, vi cm, vi ca, .ref mL, vi sc, vi qu, vi fp, .ref mT, vi lm, vi nw, vi nh, vi nr, .ref mF, .ref mR, .ref mD, .ref mA, vi ii, vi wo, vi wd, vi oe, .ref mK, vi rm, .ref mH, vi cn])]) (lv' := [(0, .ref hM), (1, vi s), (2, vi t), (3, vi q)]) rfl rfl ?_
  refine r_iload_n C dX12_turn_0 1 rfl ?_
  refine r_iconst C dX12_turn_1 ?_
  refine r_iconst C dX12_turn_2 ?_
  refine k_Si C ks_X12_58 (fun sz => c_X12_in l g s 2 4 (by omega) (by omega) (by omega) sz) dX12_turn_3 rfl rfl rfl ⟨rfl, rfl⟩ [] rfl rfl (fun _ => rfl) (ws' := fun u_ => [(hM, oB 11 [vi wi, vi hi, .ref mN, .ref mC, vi cm, vi ca, .ref mL, vi sc, vi qu, vi fp, .ref mT, vi lm, vi nw, vi nh, vi nr, .ref mF, .ref mR, .ref mD, .ref mA, vi ii, vi wo, vi wd, vi oe, .ref mK, vi rm, .ref mH, vi cn])]) (fun _ => rfl) (fun r_3 u_ p_3 => ?_)
  have p_3 : (r_3 = 1 ∧ 2 ≤ s ∧ s ≤ 4) ∨ (r_3 = 0 ∧ ¬ (2 ≤ s ∧ s ≤ 4)) := p_3
  refine r_if_eq C 27 dX12_turn_6 rfl (by omega) (fun c_1 => ?_) (fun c_1 => ?_)
  · skip
    refine r_iconst C dX12_turn_27 ?_
    exact e_i C (sc, qu, fp) dX12_turn_28 (show ((-1) = -1 ∧ ¬ (2 ≤ s ∧ s ≤ 4 ∧ 0 ≤ t ∧ t ≤ 3 ∧ 0 ≤ q ∧ q ≤ 1) ∧ sc = sc ∧ qu = qu ∧ fp = fp) ∨ ((-1) = 0 ∧ (2 ≤ s ∧ s ≤ 4 ∧ 0 ≤ t ∧ t ≤ 3 ∧ 0 ≤ q ∧ q ≤ 1) ∧ sc = s ∧ qu = t ∧ fp = q) from Or.inl ⟨rfl, by omega, rfl, rfl, rfl⟩) rfl
  · skip
    refine r_iload_n C dX12_turn_9 2 rfl ?_
    refine r_iconst C dX12_turn_10 ?_
    refine r_iconst C dX12_turn_11 ?_
    refine k_Si C ks_X12_58 (fun sz => c_X12_in l g t 0 3 (by omega) (by omega) (by omega) sz) dX12_turn_12 rfl rfl rfl ⟨rfl, rfl⟩ [] rfl rfl (fun _ => rfl) (ws' := fun u_ => [(hM, oB 11 [vi wi, vi hi, .ref mN, .ref mC, vi cm, vi ca, .ref mL, vi sc, vi qu, vi fp, .ref mT, vi lm, vi nw, vi nh, vi nr, .ref mF, .ref mR, .ref mD, .ref mA, vi ii, vi wo, vi wd, vi oe, .ref mK, vi rm, .ref mH, vi cn])]) (fun _ => rfl) (fun r_12 u_ p_12 => ?_)
    have p_12 : (r_12 = 1 ∧ 0 ≤ t ∧ t ≤ 3) ∨ (r_12 = 0 ∧ ¬ (0 ≤ t ∧ t ≤ 3)) := p_12
    refine r_if_eq C 27 dX12_turn_15 rfl (by omega) (fun c_2 => ?_) (fun c_2 => ?_)
    · skip
      refine r_iconst C dX12_turn_27 ?_
      exact e_i C (sc, qu, fp) dX12_turn_28 (show ((-1) = -1 ∧ ¬ (2 ≤ s ∧ s ≤ 4 ∧ 0 ≤ t ∧ t ≤ 3 ∧ 0 ≤ q ∧ q ≤ 1) ∧ sc = sc ∧ qu = qu ∧ fp = fp) ∨ ((-1) = 0 ∧ (2 ≤ s ∧ s ≤ 4 ∧ 0 ≤ t ∧ t ≤ 3 ∧ 0 ≤ q ∧ q ≤ 1) ∧ sc = s ∧ qu = t ∧ fp = q) from Or.inl ⟨rfl, by omega, rfl, rfl, rfl⟩) rfl
    · skip
      refine r_iload_n C dX12_turn_18 3 rfl ?_
      refine r_iconst C dX12_turn_19 ?_
      refine r_iconst C dX12_turn_20 ?_
      refine k_Si C ks_X12_58 (fun sz => c_X12_in l g q 0 1 (by omega) (by omega) (by omega) sz) dX12_turn_21 rfl rfl rfl ⟨rfl, rfl⟩ [] rfl rfl (fun _ => rfl) (ws' := fun u_ => [(hM, oB 11 [vi wi, vi hi, .ref mN, .ref mC, vi cm, vi ca, .ref mL, vi sc, vi qu, vi fp, .ref mT, vi lm, vi nw, vi nh, vi nr, .ref mF, .ref mR, .ref mD, .ref mA, vi ii, vi wo, vi wd, vi oe, .ref mK, vi rm, .ref mH, vi cn])]) (fun _ => rfl) (fun r_21 u_ p_21 => ?_)
      have p_21 : (r_21 = 1 ∧ 0 ≤ q ∧ q ≤ 1) ∨ (r_21 = 0 ∧ ¬ (0 ≤ q ∧ q ≤ 1)) := p_21
      refine r_if_ne C 29 dX12_turn_24 rfl (by omega) (fun c_3 => ?_) (fun c_3 => ?_)
      · skip
        refine r_aload_n C dX12_turn_29 0 rfl ?_
        refine r_iload_n C dX12_turn_30 1 rfl ?_
        refine pf_X12_19 C (ws' := [(hM, oB 11 [vi wi, vi hi, .ref mN, .ref mC, vi cm, vi ca, .ref mL, vi s, vi qu, vi fp, .ref mT, vi lm, vi nw, vi nh, vi nr, .ref mF, .ref mR, .ref mD, .ref mA, vi ii, vi wo, vi wd, vi oe, .ref mK, vi rm, .ref mH, vi cn])]) dX12_turn_31 0 rfl (Nat.le_of_ble_eq_true rfl) rfl ?_
        refine r_aload_n C dX12_turn_34 0 rfl ?_
        refine r_iload_n C dX12_turn_35 2 rfl ?_
        refine pf_X12_108 C (ws' := [(hM, oB 11 [vi wi, vi hi, .ref mN, .ref mC, vi cm, vi ca, .ref mL, vi s, vi t, vi fp, .ref mT, vi lm, vi nw, vi nh, vi nr, .ref mF, .ref mR, .ref mD, .ref mA, vi ii, vi wo, vi wd, vi oe, .ref mK, vi rm, .ref mH, vi cn])]) dX12_turn_36 0 rfl (Nat.le_of_ble_eq_true rfl) rfl ?_
        refine r_aload_n C dX12_turn_39 0 rfl ?_
        refine r_iload_n C dX12_turn_40 3 rfl ?_
        refine pf_X12_111 C (ws' := [(hM, oB 11 [vi wi, vi hi, .ref mN, .ref mC, vi cm, vi ca, .ref mL, vi s, vi t, vi q, .ref mT, vi lm, vi nw, vi nh, vi nr, .ref mF, .ref mR, .ref mD, .ref mA, vi ii, vi wo, vi wd, vi oe, .ref mK, vi rm, .ref mH, vi cn])]) dX12_turn_41 0 rfl (Nat.le_of_ble_eq_true rfl) rfl ?_
        refine r_iconst C dX12_turn_44 ?_
        exact e_i C (s, t, q) dX12_turn_45 (show (0 = -1 ∧ ¬ (2 ≤ s ∧ s ≤ 4 ∧ 0 ≤ t ∧ t ≤ 3 ∧ 0 ≤ q ∧ q ≤ 1) ∧ s = sc ∧ t = qu ∧ q = fp) ∨ (0 = 0 ∧ (2 ≤ s ∧ s ≤ 4 ∧ 0 ≤ t ∧ t ≤ 3 ∧ 0 ≤ q ∧ q ≤ 1) ∧ s = s ∧ t = t ∧ q = q) from Or.inr ⟨rfl, by omega, rfl, rfl, rfl⟩) rfl
      · skip
        refine r_iconst C dX12_turn_27 ?_
        exact e_i C (sc, qu, fp) dX12_turn_28 (show ((-1) = -1 ∧ ¬ (2 ≤ s ∧ s ≤ 4 ∧ 0 ≤ t ∧ t ≤ 3 ∧ 0 ≤ q ∧ q ≤ 1) ∧ sc = sc ∧ qu = qu ∧ fp = fp) ∨ ((-1) = 0 ∧ (2 ≤ s ∧ s ≤ 4 ∧ 0 ≤ t ∧ t ≤ 3 ∧ 0 ≤ q ∧ q ≤ 1) ∧ sc = s ∧ qu = t ∧ fp = q) from Or.inl ⟨rfl, by omega, rfl, rfl, rfl⟩) rfl
set_option maxHeartbeats 1000000 in
set_option maxRecDepth 100000 in
theorem c_X12_halved (l : Launch) (g : Gx) (v : Int) (s : Int) (kv : -5 ≤ v ∧ v ≤ 5) (ks : s = 2 ∨ s = 3 ∨ s = 4) (sz : Nat) : Met l yX12_halved (.code yX12_halved cX12_halved 2 (some .int) :: wsL_law) { frames := 0, cells := 0, slots := 0, locals := 0 } (PR g [vi v, vi s] [] sz) (PI (S := Unit) g (fun r u_ => r = (v * s + 1) / 2) (fun u_ => []) [] sz) 0 0 (va_A [] sz) := by
  refine meet (own := RX12) rfl (plainFor_of_name (by decide +kernel)) rfl (fun p_ e_ s_ m_ args_ below_ meth_ c_ C hnm => ?_)
  refine r_at (ws' := []) (lv' := [(0, vi v), (1, vi s)]) rfl rfl ?_
  refine r_iload_n C dX12_halved_0 0 rfl ?_
  refine r_iload_n C dX12_halved_1 1 rfl ?_
  refine r_imul C dX12_halved_2 ?_
  refine r_iconst C dX12_halved_3 ?_
  refine r_iadd C dX12_halved_4 ?_
  refine r_iconst C dX12_halved_5 ?_
  refine r_ishr C (z := ((v * s + 1) / 2)) dX12_halved_6 (z_shr1 (by rcases ks with rfl | rfl | rfl <;> omega)) ?_
  exact e_i C () dX12_halved_7 (show ((v * s + 1) / 2) = (v * s + 1) / 2 from rfl) rfl
set_option maxHeartbeats 1000000 in
set_option maxRecDepth 100000 in
theorem c_X12_liesX (l : Launch) (g : Gx) (hM : Nat) (wi : Int) (hi : Int) (mN : Nat) (mC : Nat) (cm : Int) (ca : Int) (mL : Nat) (sc : Int) (qu : Int) (fp : Int) (mT : Nat) (lm : Int) (nw : Int) (nh : Int) (nr : Int) (mF : Nat) (mR : Nat) (mD : Nat) (mA : Nat) (ii : Int) (wo : Int) (wd : Int) (oe : Int) (mK : Nat) (rm : Int) (mH : Nat) (cn : Int) (N : Int → Int) (d : Int) (s : Int) (t : Int) (q : Int) (kd : 0 ≤ d ∧ d < 10) (nX : ∀ d : Int, 0 ≤ d → d < 10 → -5 ≤ N (121 + d) ∧ N (121 + d) ≤ 5) (nY : ∀ d : Int, 0 ≤ d → d < 10 → -5 ≤ N (131 + d) ∧ N (131 + d) ≤ 5) (ks : s = 2 ∨ s = 3 ∨ s = 4) (kt : 0 ≤ t ∧ t ≤ 3) (kf : q = 0 ∨ q = 1) (sz : Nat) : Met l yX12_liesX (.code yX12_liesX cX12_liesX 7 (some .int) :: wsL_law) { frames := 1, cells := 0, slots := 0, locals := 21 } (PR g [.ref hM, vi d, vi s, vi t, vi q] [(hM, oB 11 [vi wi, vi hi, .ref mN, .ref mC, vi cm, vi ca, .ref mL, vi sc, vi qu, vi fp, .ref mT, vi lm, vi nw, vi nh, vi nr, .ref mF, .ref mR, .ref mD, .ref mA, vi ii, vi wo, vi wd, vi oe, .ref mK, vi rm, .ref mH, vi cn]), (mN, aI g 145 N)] sz) (PI (S := Unit) g (fun r u_ => r = lX s t q (N (121 + d)) (N (131 + d))) (fun u_ => [(hM, oB 11 [vi wi, vi hi, .ref mN, .ref mC, vi cm, vi ca, .ref mL, vi sc, vi qu, vi fp, .ref mT, vi lm, vi nw, vi nh, vi nr, .ref mF, .ref mR, .ref mD, .ref mA, vi ii, vi wo, vi wd, vi oe, .ref mK, vi rm, .ref mH, vi cn]), (mN, aI g 145 N)]) [(hM, oB 11 [vi wi, vi hi, .ref mN, .ref mC, vi cm, vi ca, .ref mL, vi sc, vi qu, vi fp, .ref mT, vi lm, vi nw, vi nh, vi nr, .ref mF, .ref mR, .ref mD, .ref mA, vi ii, vi wo, vi wd, vi oe, .ref mK, vi rm, .ref mH, vi cn]), (mN, aI g 145 N)] sz) 0 0 (va_A [(hM, oB 11 [vi wi, vi hi, .ref mN, .ref mC, vi cm, vi ca, .ref mL, vi sc, vi qu, vi fp, .ref mT, vi lm, vi nw, vi nh, vi nr, .ref mF, .ref mR, .ref mD, .ref mA, vi ii, vi wo, vi wd, vi oe, .ref mK, vi rm, .ref mH, vi cn]), (mN, aI g 145 N)] sz) := by
  refine meet (own := RX12) rfl (plainFor_of_name (by decide +kernel)) rfl (fun p_ e_ s_ m_ args_ below_ meth_ c_ C hnm => ?_)
  refine r_at (ws' := [(hM, oB 11 [vi wi, vi hi, .ref mN, .ref mC, vi cm, vi ca, .ref mL, vi sc, vi qu, vi fp, .ref mT, vi lm, vi nw, vi nh, vi nr, .ref mF, .ref mR, .ref mD, .ref mA, vi ii, vi wo, vi wd, vi oe, .ref mK, vi rm, .ref mH, vi cn]), (mN, aI g 145 N)]) (lv' := [(0, .ref hM), (1, vi d), (2, vi s), (3, vi t), (4, vi q)]) rfl rfl ?_
  have bX := nX d kd.1 kd.2
  have bY := nY d kd.1 kd.2
  refine r_join (σ := Int) 28 (fun z_ => (z_ = (if q = 1 then -(N (121 + d)) else N (121 + d))) ∧ (-5 ≤ z_ ∧ z_ ≤ 5)) (fun z_ => [(hM, oB 11 [vi wi, vi hi, .ref mN, .ref mC, vi cm, vi ca, .ref mL, vi sc, vi qu, vi fp, .ref mT, vi lm, vi nw, vi nh, vi nr, .ref mF, .ref mR, .ref mD, .ref mA, vi ii, vi wo, vi wd, vi oe, .ref mK, vi rm, .ref mH, vi cn]), (mN, aI g 145 N)]) (fun z_ => [(0, .ref hM), (1, vi d), (2, vi s), (3, vi t), (4, vi q)]) (fun z_ => [vi z_]) (fun z_ hz => ?_) (fun J_28 => ?_)
  rotate_left
  · skip
    refine r_iload C dX12_liesX_0 4 rfl ?_
    refine r_iconst C dX12_liesX_2 ?_
    refine r_icmp_ne C 19 dX12_liesX_3 rfl (by omega) (fun c_1 => ?_) (fun c_1 => ?_)
    · skip
      refine r_aload_n C dX12_liesX_19 0 rfl ?_
      refine gf_X12_7 C dX12_liesX_20 0 rfl rfl ?_
      refine r_bipush C dX12_liesX_23 rfl ?_
      refine r_iload_n C dX12_liesX_25 1 rfl ?_
      refine r_iadd C dX12_liesX_26 ?_
      refine r_iald C dX12_liesX_27 1 rfl rfl (by omega) ?_
      refine r_lv (lv' := [(0, .ref hM), (1, vi d), (2, vi s), (3, vi t), (4, vi q)]) [0, 1, 2, 3, 4] rfl ?_
      exact J_28 (N (121 + d)) (show ((N (121 + d)) = (if q = 1 then -(N (121 + d)) else N (121 + d))) ∧ (-5 ≤ (N (121 + d)) ∧ (N (121 + d)) ≤ 5) from ⟨(by omega), (by omega)⟩)
    · skip
      refine r_aload_n C dX12_liesX_6 0 rfl ?_
      refine gf_X12_7 C dX12_liesX_7 0 rfl rfl ?_
      refine r_bipush C dX12_liesX_10 rfl ?_
      refine r_iload_n C dX12_liesX_12 1 rfl ?_
      refine r_iadd C dX12_liesX_13 ?_
      refine r_iald C dX12_liesX_14 1 rfl rfl (by omega) ?_
      refine r_ineg C dX12_liesX_15 ?_
      refine r_goto C 28 dX12_liesX_16 rfl ?_
      refine r_lv (lv' := [(0, .ref hM), (1, vi d), (2, vi s), (3, vi t), (4, vi q)]) [0, 1, 2, 3, 4] rfl ?_
      exact J_28 (-(N (121 + d))) (show ((-(N (121 + d))) = (if q = 1 then -(N (121 + d)) else N (121 + d))) ∧ (-5 ≤ (-(N (121 + d))) ∧ (-(N (121 + d))) ≤ 5) from ⟨(by omega), (by omega)⟩)
  obtain ⟨a, rfl⟩ : ∃ w_, w_ = z_ := ⟨_, rfl⟩
  obtain ⟨ja, jab⟩ := hz
  have ja : a = (if q = 1 then -(N (121 + d)) else N (121 + d)) := ja
  have jab : -5 ≤ a ∧ a ≤ 5 := jab
  refine r_at3 (ws' := [(hM, oB 11 [vi wi, vi hi, .ref mN, .ref mC, vi cm, vi ca, .ref mL, vi sc, vi qu, vi fp, .ref mT, vi lm, vi nw, vi nh, vi nr, .ref mF, .ref mR, .ref mD, .ref mA, vi ii, vi wo, vi wd, vi oe, .ref mK, vi rm, .ref mH, vi cn]), (mN, aI g 145 N)]) (lv' := [(0, .ref hM), (1, vi d), (2, vi s), (3, vi t), (4, vi q)]) (st' := [vi a]) rfl rfl rfl ?_
  refine r_istore C (lv' := [(5, vi a), (0, .ref hM), (1, vi d), (2, vi s), (3, vi t), (4, vi q)]) dX12_liesX_28 rfl rfl ?_
  refine r_aload_n C dX12_liesX_30 1 rfl ?_
  refine gf_X12_7 C dX12_liesX_31 0 rfl rfl ?_
  refine r_sipush C dX12_liesX_34 rfl ?_
  refine r_iload_n C dX12_liesX_37 2 rfl ?_
  refine r_iadd C dX12_liesX_38 ?_
  refine r_iald C dX12_liesX_39 1 rfl rfl (by omega) ?_
  refine r_istore C (lv' := [(6, vi (N (131 + d))), (5, vi a), (0, .ref hM), (1, vi d), (2, vi s), (3, vi t), (4, vi q)]) dX12_liesX_40 rfl rfl ?_
  refine r_join (σ := Int) 75 (fun z_ => (z_ = rX t a (N (131 + d))) ∧ (-5 ≤ z_ ∧ z_ ≤ 5)) (fun z_ => [(hM, oB 11 [vi wi, vi hi, .ref mN, .ref mC, vi cm, vi ca, .ref mL, vi sc, vi qu, vi fp, .ref mT, vi lm, vi nw, vi nh, vi nr, .ref mF, .ref mR, .ref mD, .ref mA, vi ii, vi wo, vi wd, vi oe, .ref mK, vi rm, .ref mH, vi cn]), (mN, aI g 145 N)]) (fun z_ => [(6, vi (N (131 + d))), (5, vi a), (0, .ref hM), (1, vi d), (2, vi s), (3, vi t), (4, vi q)]) (fun z_ => [vi z_]) (fun z_ hz => ?_) (fun J_75 => ?_)
  rotate_left
  · skip
    refine r_iload_n C dX12_liesX_42 5 rfl ?_
    refine r_if_ne C 51 dX12_liesX_43 rfl (by omega) (fun c_2 => ?_) (fun c_2 => ?_)
    · skip
      refine r_iload_n C dX12_liesX_51 5 rfl ?_
      refine r_iconst C dX12_liesX_52 ?_
      refine r_icmp_ne C 62 dX12_liesX_53 rfl (by omega) (fun c_3 => ?_) (fun c_3 => ?_)
      · skip
        refine r_iload_n C dX12_liesX_62 5 rfl ?_
        refine r_iconst C dX12_liesX_63 ?_
        refine r_icmp_ne C 73 dX12_liesX_64 rfl (by omega) (fun c_4 => ?_) (fun c_4 => ?_)
        · skip
          refine r_iload C dX12_liesX_73 0 rfl ?_
          refine r_lv (lv' := [(6, vi (N (131 + d))), (5, vi a), (0, .ref hM), (1, vi d), (2, vi s), (3, vi t), (4, vi q)]) [0, 1, 2, 3, 4, 5, 6] rfl ?_
          exact J_75 (N (131 + d)) (show ((N (131 + d)) = rX t a (N (131 + d))) ∧ (-5 ≤ (N (131 + d)) ∧ (N (131 + d)) ≤ 5) from ⟨(by unfold rX; omega), (by omega)⟩)
        · skip
          refine r_iload C dX12_liesX_67 1 rfl ?_
          refine r_ineg C dX12_liesX_69 ?_
          refine r_goto C 75 dX12_liesX_70 rfl ?_
          refine r_lv (lv' := [(6, vi (N (131 + d))), (5, vi a), (0, .ref hM), (1, vi d), (2, vi s), (3, vi t), (4, vi q)]) [0, 1, 2, 3, 4, 5, 6] rfl ?_
          exact J_75 (-a) (show ((-a) = rX t a (N (131 + d))) ∧ (-5 ≤ (-a) ∧ (-a) ≤ 5) from ⟨(by unfold rX; omega), (by omega)⟩)
      · skip
        refine r_iload C dX12_liesX_56 0 rfl ?_
        refine r_ineg C dX12_liesX_58 ?_
        refine r_goto C 75 dX12_liesX_59 rfl ?_
        refine r_lv (lv' := [(6, vi (N (131 + d))), (5, vi a), (0, .ref hM), (1, vi d), (2, vi s), (3, vi t), (4, vi q)]) [0, 1, 2, 3, 4, 5, 6] rfl ?_
        exact J_75 (-(N (131 + d))) (show ((-(N (131 + d))) = rX t a (N (131 + d))) ∧ (-5 ≤ (-(N (131 + d))) ∧ (-(N (131 + d))) ≤ 5) from ⟨(by unfold rX; omega), (by omega)⟩)
    · skip
      refine r_iload C dX12_liesX_46 1 rfl ?_
      refine r_goto C 75 dX12_liesX_48 rfl ?_
      refine r_lv (lv' := [(6, vi (N (131 + d))), (5, vi a), (0, .ref hM), (1, vi d), (2, vi s), (3, vi t), (4, vi q)]) [0, 1, 2, 3, 4, 5, 6] rfl ?_
      exact J_75 a (show (a = rX t a (N (131 + d))) ∧ (-5 ≤ a ∧ a ≤ 5) from ⟨(by unfold rX; omega), (by omega)⟩)
  obtain ⟨e, rfl⟩ : ∃ w_, w_ = z_ := ⟨_, rfl⟩
  obtain ⟨je, jeb⟩ := hz
  have je : e = rX t a (N (131 + d)) := je
  have jeb : -5 ≤ e ∧ e ≤ 5 := jeb
  refine r_at3 (ws' := [(hM, oB 11 [vi wi, vi hi, .ref mN, .ref mC, vi cm, vi ca, .ref mL, vi sc, vi qu, vi fp, .ref mT, vi lm, vi nw, vi nh, vi nr, .ref mF, .ref mR, .ref mD, .ref mA, vi ii, vi wo, vi wd, vi oe, .ref mK, vi rm, .ref mH, vi cn]), (mN, aI g 145 N)]) (lv' := [(6, vi (N (131 + d))), (5, vi a), (0, .ref hM), (1, vi d), (2, vi s), (3, vi t), (4, vi q)]) (st' := [vi e]) rfl rfl rfl ?_
  refine r_iload_n C dX12_liesX_75 4 rfl ?_
  refine k_Si C ks_X12_140 (fun sz => c_X12_halved l g e s jeb ks sz) dX12_liesX_76 rfl rfl rfl ⟨rfl, rfl⟩ [] rfl rfl (fun _ => rfl) (ws' := fun u_ => [(hM, oB 11 [vi wi, vi hi, .ref mN, .ref mC, vi cm, vi ca, .ref mL, vi sc, vi qu, vi fp, .ref mT, vi lm, vi nw, vi nh, vi nr, .ref mF, .ref mR, .ref mD, .ref mA, vi ii, vi wo, vi wd, vi oe, .ref mK, vi rm, .ref mH, vi cn]), (mN, aI g 145 N)]) (fun _ => rfl) (fun r_76 u_ p_76 => ?_)
  have p_76 : r_76 = (e * s + 1) / 2 := p_76
  exact e_i C () dX12_liesX_79 (show r_76 = lX s t q (N (121 + d)) (N (131 + d)) from by rw [p_76, je, ja]; rfl) rfl
set_option maxHeartbeats 1000000 in
set_option maxRecDepth 100000 in
theorem c_X12_liesY (l : Launch) (g : Gx) (hM : Nat) (wi : Int) (hi : Int) (mN : Nat) (mC : Nat) (cm : Int) (ca : Int) (mL : Nat) (sc : Int) (qu : Int) (fp : Int) (mT : Nat) (lm : Int) (nw : Int) (nh : Int) (nr : Int) (mF : Nat) (mR : Nat) (mD : Nat) (mA : Nat) (ii : Int) (wo : Int) (wd : Int) (oe : Int) (mK : Nat) (rm : Int) (mH : Nat) (cn : Int) (N : Int → Int) (d : Int) (s : Int) (t : Int) (q : Int) (kd : 0 ≤ d ∧ d < 10) (nX : ∀ d : Int, 0 ≤ d → d < 10 → -5 ≤ N (121 + d) ∧ N (121 + d) ≤ 5) (nY : ∀ d : Int, 0 ≤ d → d < 10 → -5 ≤ N (131 + d) ∧ N (131 + d) ≤ 5) (ks : s = 2 ∨ s = 3 ∨ s = 4) (kt : 0 ≤ t ∧ t ≤ 3) (kf : q = 0 ∨ q = 1) (sz : Nat) : Met l yX12_liesY (.code yX12_liesY cX12_liesY 7 (some .int) :: wsL_law) { frames := 1, cells := 0, slots := 0, locals := 21 } (PR g [.ref hM, vi d, vi s, vi t, vi q] [(hM, oB 11 [vi wi, vi hi, .ref mN, .ref mC, vi cm, vi ca, .ref mL, vi sc, vi qu, vi fp, .ref mT, vi lm, vi nw, vi nh, vi nr, .ref mF, .ref mR, .ref mD, .ref mA, vi ii, vi wo, vi wd, vi oe, .ref mK, vi rm, .ref mH, vi cn]), (mN, aI g 145 N)] sz) (PI (S := Unit) g (fun r u_ => r = lY s t q (N (121 + d)) (N (131 + d))) (fun u_ => [(hM, oB 11 [vi wi, vi hi, .ref mN, .ref mC, vi cm, vi ca, .ref mL, vi sc, vi qu, vi fp, .ref mT, vi lm, vi nw, vi nh, vi nr, .ref mF, .ref mR, .ref mD, .ref mA, vi ii, vi wo, vi wd, vi oe, .ref mK, vi rm, .ref mH, vi cn]), (mN, aI g 145 N)]) [(hM, oB 11 [vi wi, vi hi, .ref mN, .ref mC, vi cm, vi ca, .ref mL, vi sc, vi qu, vi fp, .ref mT, vi lm, vi nw, vi nh, vi nr, .ref mF, .ref mR, .ref mD, .ref mA, vi ii, vi wo, vi wd, vi oe, .ref mK, vi rm, .ref mH, vi cn]), (mN, aI g 145 N)] sz) 0 0 (va_A [(hM, oB 11 [vi wi, vi hi, .ref mN, .ref mC, vi cm, vi ca, .ref mL, vi sc, vi qu, vi fp, .ref mT, vi lm, vi nw, vi nh, vi nr, .ref mF, .ref mR, .ref mD, .ref mA, vi ii, vi wo, vi wd, vi oe, .ref mK, vi rm, .ref mH, vi cn]), (mN, aI g 145 N)] sz) := by
  refine meet (own := RX12) rfl (plainFor_of_name (by decide +kernel)) rfl (fun p_ e_ s_ m_ args_ below_ meth_ c_ C hnm => ?_)
  refine r_at (ws' := [(hM, oB 11 [vi wi, vi hi, .ref mN, .ref mC, vi cm, vi ca, .ref mL, vi sc, vi qu, vi fp, .ref mT, vi lm, vi nw, vi nh, vi nr, .ref mF, .ref mR, .ref mD, .ref mA, vi ii, vi wo, vi wd, vi oe, .ref mK, vi rm, .ref mH, vi cn]), (mN, aI g 145 N)]) (lv' := [(0, .ref hM), (1, vi d), (2, vi s), (3, vi t), (4, vi q)]) rfl rfl ?_
  have bX := nX d kd.1 kd.2
  have bY := nY d kd.1 kd.2
  refine r_join (σ := Int) 28 (fun z_ => (z_ = (if q = 1 then -(N (121 + d)) else N (121 + d))) ∧ (-5 ≤ z_ ∧ z_ ≤ 5)) (fun z_ => [(hM, oB 11 [vi wi, vi hi, .ref mN, .ref mC, vi cm, vi ca, .ref mL, vi sc, vi qu, vi fp, .ref mT, vi lm, vi nw, vi nh, vi nr, .ref mF, .ref mR, .ref mD, .ref mA, vi ii, vi wo, vi wd, vi oe, .ref mK, vi rm, .ref mH, vi cn]), (mN, aI g 145 N)]) (fun z_ => [(0, .ref hM), (1, vi d), (2, vi s), (3, vi t), (4, vi q)]) (fun z_ => [vi z_]) (fun z_ hz => ?_) (fun J_28 => ?_)
  rotate_left
  · skip
    refine r_iload C dX12_liesY_0 4 rfl ?_
    refine r_iconst C dX12_liesY_2 ?_
    refine r_icmp_ne C 19 dX12_liesY_3 rfl (by omega) (fun c_1 => ?_) (fun c_1 => ?_)
    · skip
      refine r_aload_n C dX12_liesY_19 0 rfl ?_
      refine gf_X12_7 C dX12_liesY_20 0 rfl rfl ?_
      refine r_bipush C dX12_liesY_23 rfl ?_
      refine r_iload_n C dX12_liesY_25 1 rfl ?_
      refine r_iadd C dX12_liesY_26 ?_
      refine r_iald C dX12_liesY_27 1 rfl rfl (by omega) ?_
      refine r_lv (lv' := [(0, .ref hM), (1, vi d), (2, vi s), (3, vi t), (4, vi q)]) [0, 1, 2, 3, 4] rfl ?_
      exact J_28 (N (121 + d)) (show ((N (121 + d)) = (if q = 1 then -(N (121 + d)) else N (121 + d))) ∧ (-5 ≤ (N (121 + d)) ∧ (N (121 + d)) ≤ 5) from ⟨(by omega), (by omega)⟩)
    · skip
      refine r_aload_n C dX12_liesY_6 0 rfl ?_
      refine gf_X12_7 C dX12_liesY_7 0 rfl rfl ?_
      refine r_bipush C dX12_liesY_10 rfl ?_
      refine r_iload_n C dX12_liesY_12 1 rfl ?_
      refine r_iadd C dX12_liesY_13 ?_
      refine r_iald C dX12_liesY_14 1 rfl rfl (by omega) ?_
      refine r_ineg C dX12_liesY_15 ?_
      refine r_goto C 28 dX12_liesY_16 rfl ?_
      refine r_lv (lv' := [(0, .ref hM), (1, vi d), (2, vi s), (3, vi t), (4, vi q)]) [0, 1, 2, 3, 4] rfl ?_
      exact J_28 (-(N (121 + d))) (show ((-(N (121 + d))) = (if q = 1 then -(N (121 + d)) else N (121 + d))) ∧ (-5 ≤ (-(N (121 + d))) ∧ (-(N (121 + d))) ≤ 5) from ⟨(by omega), (by omega)⟩)
  obtain ⟨a, rfl⟩ : ∃ w_, w_ = z_ := ⟨_, rfl⟩
  obtain ⟨ja, jab⟩ := hz
  have ja : a = (if q = 1 then -(N (121 + d)) else N (121 + d)) := ja
  have jab : -5 ≤ a ∧ a ≤ 5 := jab
  refine r_at3 (ws' := [(hM, oB 11 [vi wi, vi hi, .ref mN, .ref mC, vi cm, vi ca, .ref mL, vi sc, vi qu, vi fp, .ref mT, vi lm, vi nw, vi nh, vi nr, .ref mF, .ref mR, .ref mD, .ref mA, vi ii, vi wo, vi wd, vi oe, .ref mK, vi rm, .ref mH, vi cn]), (mN, aI g 145 N)]) (lv' := [(0, .ref hM), (1, vi d), (2, vi s), (3, vi t), (4, vi q)]) (st' := [vi a]) rfl rfl rfl ?_
  refine r_istore C (lv' := [(5, vi a), (0, .ref hM), (1, vi d), (2, vi s), (3, vi t), (4, vi q)]) dX12_liesY_28 rfl rfl ?_
  refine r_aload_n C dX12_liesY_30 1 rfl ?_
  refine gf_X12_7 C dX12_liesY_31 0 rfl rfl ?_
  refine r_sipush C dX12_liesY_34 rfl ?_
  refine r_iload_n C dX12_liesY_37 2 rfl ?_
  refine r_iadd C dX12_liesY_38 ?_
  refine r_iald C dX12_liesY_39 1 rfl rfl (by omega) ?_
  refine r_istore C (lv' := [(6, vi (N (131 + d))), (5, vi a), (0, .ref hM), (1, vi d), (2, vi s), (3, vi t), (4, vi q)]) dX12_liesY_40 rfl rfl ?_
  refine r_join (σ := Int) 75 (fun z_ => (z_ = rY t a (N (131 + d))) ∧ (-5 ≤ z_ ∧ z_ ≤ 5)) (fun z_ => [(hM, oB 11 [vi wi, vi hi, .ref mN, .ref mC, vi cm, vi ca, .ref mL, vi sc, vi qu, vi fp, .ref mT, vi lm, vi nw, vi nh, vi nr, .ref mF, .ref mR, .ref mD, .ref mA, vi ii, vi wo, vi wd, vi oe, .ref mK, vi rm, .ref mH, vi cn]), (mN, aI g 145 N)]) (fun z_ => [(6, vi (N (131 + d))), (5, vi a), (0, .ref hM), (1, vi d), (2, vi s), (3, vi t), (4, vi q)]) (fun z_ => [vi z_]) (fun z_ hz => ?_) (fun J_75 => ?_)
  rotate_left
  · skip
    refine r_iload_n C dX12_liesY_42 5 rfl ?_
    refine r_if_ne C 51 dX12_liesY_43 rfl (by omega) (fun c_2 => ?_) (fun c_2 => ?_)
    · skip
      refine r_iload_n C dX12_liesY_51 5 rfl ?_
      refine r_iconst C dX12_liesY_52 ?_
      refine r_icmp_ne C 61 dX12_liesY_53 rfl (by omega) (fun c_3 => ?_) (fun c_3 => ?_)
      · skip
        refine r_iload_n C dX12_liesY_61 5 rfl ?_
        refine r_iconst C dX12_liesY_62 ?_
        refine r_icmp_ne C 72 dX12_liesY_63 rfl (by omega) (fun c_4 => ?_) (fun c_4 => ?_)
        · skip
          refine r_iload C dX12_liesY_72 1 rfl ?_
          refine r_ineg C dX12_liesY_74 ?_
          refine r_lv (lv' := [(6, vi (N (131 + d))), (5, vi a), (0, .ref hM), (1, vi d), (2, vi s), (3, vi t), (4, vi q)]) [0, 1, 2, 3, 4, 5, 6] rfl ?_
          exact J_75 (-a) (show ((-a) = rY t a (N (131 + d))) ∧ (-5 ≤ (-a) ∧ (-a) ≤ 5) from ⟨(by unfold rY; omega), (by omega)⟩)
        · skip
          refine r_iload C dX12_liesY_66 0 rfl ?_
          refine r_ineg C dX12_liesY_68 ?_
          refine r_goto C 75 dX12_liesY_69 rfl ?_
          refine r_lv (lv' := [(6, vi (N (131 + d))), (5, vi a), (0, .ref hM), (1, vi d), (2, vi s), (3, vi t), (4, vi q)]) [0, 1, 2, 3, 4, 5, 6] rfl ?_
          exact J_75 (-(N (131 + d))) (show ((-(N (131 + d))) = rY t a (N (131 + d))) ∧ (-5 ≤ (-(N (131 + d))) ∧ (-(N (131 + d))) ≤ 5) from ⟨(by unfold rY; omega), (by omega)⟩)
      · skip
        refine r_iload C dX12_liesY_56 1 rfl ?_
        refine r_goto C 75 dX12_liesY_58 rfl ?_
        refine r_lv (lv' := [(6, vi (N (131 + d))), (5, vi a), (0, .ref hM), (1, vi d), (2, vi s), (3, vi t), (4, vi q)]) [0, 1, 2, 3, 4, 5, 6] rfl ?_
        exact J_75 a (show (a = rY t a (N (131 + d))) ∧ (-5 ≤ a ∧ a ≤ 5) from ⟨(by unfold rY; omega), (by omega)⟩)
    · skip
      refine r_iload C dX12_liesY_46 0 rfl ?_
      refine r_goto C 75 dX12_liesY_48 rfl ?_
      refine r_lv (lv' := [(6, vi (N (131 + d))), (5, vi a), (0, .ref hM), (1, vi d), (2, vi s), (3, vi t), (4, vi q)]) [0, 1, 2, 3, 4, 5, 6] rfl ?_
      exact J_75 (N (131 + d)) (show ((N (131 + d)) = rY t a (N (131 + d))) ∧ (-5 ≤ (N (131 + d)) ∧ (N (131 + d)) ≤ 5) from ⟨(by unfold rY; omega), (by omega)⟩)
  obtain ⟨e, rfl⟩ : ∃ w_, w_ = z_ := ⟨_, rfl⟩
  obtain ⟨je, jeb⟩ := hz
  have je : e = rY t a (N (131 + d)) := je
  have jeb : -5 ≤ e ∧ e ≤ 5 := jeb
  refine r_at3 (ws' := [(hM, oB 11 [vi wi, vi hi, .ref mN, .ref mC, vi cm, vi ca, .ref mL, vi sc, vi qu, vi fp, .ref mT, vi lm, vi nw, vi nh, vi nr, .ref mF, .ref mR, .ref mD, .ref mA, vi ii, vi wo, vi wd, vi oe, .ref mK, vi rm, .ref mH, vi cn]), (mN, aI g 145 N)]) (lv' := [(6, vi (N (131 + d))), (5, vi a), (0, .ref hM), (1, vi d), (2, vi s), (3, vi t), (4, vi q)]) (st' := [vi e]) rfl rfl rfl ?_
  refine r_iload_n C dX12_liesY_75 4 rfl ?_
  refine k_Si C ks_X12_140 (fun sz => c_X12_halved l g e s jeb ks sz) dX12_liesY_76 rfl rfl rfl ⟨rfl, rfl⟩ [] rfl rfl (fun _ => rfl) (ws' := fun u_ => [(hM, oB 11 [vi wi, vi hi, .ref mN, .ref mC, vi cm, vi ca, .ref mL, vi sc, vi qu, vi fp, .ref mT, vi lm, vi nw, vi nh, vi nr, .ref mF, .ref mR, .ref mD, .ref mA, vi ii, vi wo, vi wd, vi oe, .ref mK, vi rm, .ref mH, vi cn]), (mN, aI g 145 N)]) (fun _ => rfl) (fun r_76 u_ p_76 => ?_)
  have p_76 : r_76 = (e * s + 1) / 2 := p_76
  exact e_i C () dX12_liesY_79 (show r_76 = lY s t q (N (121 + d)) (N (131 + d)) from by rw [p_76, je, ja]; rfl) rfl
set_option maxHeartbeats 1000000 in
set_option maxRecDepth 100000 in
theorem c_X12_lies (l : Launch) (g : Gx) (hM : Nat) (wi : Int) (hi : Int) (mN : Nat) (mC : Nat) (cm : Int) (ca : Int) (mL : Nat) (sc : Int) (qu : Int) (fp : Int) (mT : Nat) (lm : Int) (nw : Int) (nh : Int) (nr : Int) (mF : Nat) (mR : Nat) (mD : Nat) (mA : Nat) (ii : Int) (wo : Int) (wd : Int) (oe : Int) (mK : Nat) (rm : Int) (mH : Nat) (cn : Int) (N : Int → Int) (d : Int) (q : Int) (hN : MOK wi hi N) (hlk : LKO sc qu fp) (bbd : -2147483648 ≤ d ∧ d ≤ 2147483647) (bbq : -2147483648 ≤ q ∧ q ≤ 2147483647) (sz : Nat) : Met l yX12_lies (.code yX12_lies cX12_lies 3 (some .int) :: wsL_law) { frames := 2, cells := 0, slots := 0, locals := 47 } (PR g [.ref hM, vi d, vi q] [(hM, oB 11 [vi wi, vi hi, .ref mN, .ref mC, vi cm, vi ca, .ref mL, vi sc, vi qu, vi fp, .ref mT, vi lm, vi nw, vi nh, vi nr, .ref mF, .ref mR, .ref mD, .ref mA, vi ii, vi wo, vi wd, vi oe, .ref mK, vi rm, .ref mH, vi cn]), (mN, aI g 145 N)] sz) (PI (S := Unit) g (fun r u_ => r = if 0 ≤ d ∧ d < N 141 ∧ 0 ≤ q ∧ q ≤ 1 then 100 + (if q = 0 then lX sc qu fp (N (121 + d)) (N (131 + d)) else lY sc qu fp (N (121 + d)) (N (131 + d))) else -1) (fun u_ => [(hM, oB 11 [vi wi, vi hi, .ref mN, .ref mC, vi cm, vi ca, .ref mL, vi sc, vi qu, vi fp, .ref mT, vi lm, vi nw, vi nh, vi nr, .ref mF, .ref mR, .ref mD, .ref mA, vi ii, vi wo, vi wd, vi oe, .ref mK, vi rm, .ref mH, vi cn]), (mN, aI g 145 N)]) [(hM, oB 11 [vi wi, vi hi, .ref mN, .ref mC, vi cm, vi ca, .ref mL, vi sc, vi qu, vi fp, .ref mT, vi lm, vi nw, vi nh, vi nr, .ref mF, .ref mR, .ref mD, .ref mA, vi ii, vi wo, vi wd, vi oe, .ref mK, vi rm, .ref mH, vi cn]), (mN, aI g 145 N)] sz) 0 0 (va_A [(hM, oB 11 [vi wi, vi hi, .ref mN, .ref mC, vi cm, vi ca, .ref mL, vi sc, vi qu, vi fp, .ref mT, vi lm, vi nw, vi nh, vi nr, .ref mF, .ref mR, .ref mD, .ref mA, vi ii, vi wo, vi wd, vi oe, .ref mK, vi rm, .ref mH, vi cn]), (mN, aI g 145 N)] sz) := by
  refine meet (own := RX12) rfl (plainFor_of_name (by decide +kernel)) rfl (fun p_ e_ s_ m_ args_ below_ meth_ c_ C hnm => ?_)
  refine r_at (ws' := [(hM, oB 11 [vi wi, vi hi, .ref mN, .ref mC, vi cm, vi ca, .ref mL, vi sc, vi qu, vi fp, .ref mT, vi lm, vi nw, vi nh, vi nr, .ref mF, .ref mR, .ref mD, .ref mA, vi ii, vi wo, vi wd, vi oe, .ref mK, vi rm, .ref mH, vi cn]), (mN, aI g 145 N)]) (lv' := [(0, .ref hM), (1, vi d), (2, vi q)]) rfl rfl ?_
  obtain ⟨nW, nH, n1, nO, nn, nX, nY, nM, nC, nT⟩ := id hN
  obtain ⟨k3, kt, kf⟩ := id hlk
  refine r_aload_n C dX12_lies_0 0 rfl ?_
  refine r_iload_n C dX12_lies_1 1 rfl ?_
  refine k_Vi C kv_X12_127 (fun sz => c_X12_isDot l g hM wi hi mN mC cm ca mL sc qu fp mT lm nw nh nr mF mR mD mA ii wo wd oe mK rm mH cn N d nn (by omega) sz) dX12_lies_2 rfl rfl rfl ⟨rfl, rfl⟩ 0 11 rfl rfl rfl [0, 1] rfl rfl (fun _ => rfl) (ws' := fun u_ => [(hM, oB 11 [vi wi, vi hi, .ref mN, .ref mC, vi cm, vi ca, .ref mL, vi sc, vi qu, vi fp, .ref mT, vi lm, vi nw, vi nh, vi nr, .ref mF, .ref mR, .ref mD, .ref mA, vi ii, vi wo, vi wd, vi oe, .ref mK, vi rm, .ref mH, vi cn]), (mN, aI g 145 N)]) (fun _ => rfl) (fun r_2 u_ p_2 => ?_)
  have p_2 : (r_2 = 1 ∧ 0 ≤ d ∧ d < N 141) ∨ (r_2 = 0 ∧ ¬ (0 ≤ d ∧ d < N 141)) := p_2
  refine r_if_eq C 17 dX12_lies_5 rfl (by omega) (fun c_1 => ?_) (fun c_1 => ?_)
  · skip
    refine r_iconst C dX12_lies_17 ?_
    exact e_i C () dX12_lies_18 (show (-1) = if 0 ≤ d ∧ d < N 141 ∧ 0 ≤ q ∧ q ≤ 1 then 100 + (if q = 0 then lX sc qu fp (N (121 + d)) (N (131 + d)) else lY sc qu fp (N (121 + d)) (N (131 + d))) else -1 from by rw [if_neg (by omega)]) rfl
  · skip
    refine r_iload_n C dX12_lies_8 2 rfl ?_
    refine r_iconst C dX12_lies_9 ?_
    refine r_iconst C dX12_lies_10 ?_
    refine k_Si C ks_X12_58 (fun sz => c_X12_in l g q 0 1 (by omega) (by omega) (by omega) sz) dX12_lies_11 rfl rfl rfl ⟨rfl, rfl⟩ [] rfl rfl (fun _ => rfl) (ws' := fun u_ => [(hM, oB 11 [vi wi, vi hi, .ref mN, .ref mC, vi cm, vi ca, .ref mL, vi sc, vi qu, vi fp, .ref mT, vi lm, vi nw, vi nh, vi nr, .ref mF, .ref mR, .ref mD, .ref mA, vi ii, vi wo, vi wd, vi oe, .ref mK, vi rm, .ref mH, vi cn]), (mN, aI g 145 N)]) (fun _ => rfl) (fun r_11 u_ p_11 => ?_)
    have p_11 : (r_11 = 1 ∧ 0 ≤ q ∧ q ≤ 1) ∨ (r_11 = 0 ∧ ¬ (0 ≤ q ∧ q ≤ 1)) := p_11
    refine r_if_ne C 19 dX12_lies_14 rfl (by omega) (fun c_2 => ?_) (fun c_2 => ?_)
    · skip
      refine r_bipush C dX12_lies_19 rfl ?_
      refine r_iload_n C dX12_lies_21 2 rfl ?_
      refine r_if_ne C 45 dX12_lies_22 rfl (by omega) (fun c_3 => ?_) (fun c_3 => ?_)
      · skip
        refine r_aload_n C dX12_lies_45 0 rfl ?_
        refine r_iload_n C dX12_lies_46 1 rfl ?_
        refine r_aload_n C dX12_lies_47 0 rfl ?_
        refine gf_X12_19 C dX12_lies_48 0 rfl rfl ?_
        refine r_aload_n C dX12_lies_51 0 rfl ?_
        refine gf_X12_108 C dX12_lies_52 0 rfl rfl ?_
        refine r_aload_n C dX12_lies_55 0 rfl ?_
        refine gf_X12_111 C dX12_lies_56 0 rfl rfl ?_
        refine k_Vi C kv_X12_146 (fun sz => c_X12_liesY l g hM wi hi mN mC cm ca mL sc qu fp mT lm nw nh nr mF mR mD mA ii wo wd oe mK rm mH cn N d sc qu fp (by omega) nX nY k3 kt kf sz) dX12_lies_59 rfl rfl rfl ⟨rfl, rfl⟩ 0 11 rfl rfl rfl [0, 1] rfl rfl (fun _ => rfl) (ws' := fun u_ => [(hM, oB 11 [vi wi, vi hi, .ref mN, .ref mC, vi cm, vi ca, .ref mL, vi sc, vi qu, vi fp, .ref mT, vi lm, vi nw, vi nh, vi nr, .ref mF, .ref mR, .ref mD, .ref mA, vi ii, vi wo, vi wd, vi oe, .ref mK, vi rm, .ref mH, vi cn]), (mN, aI g 145 N)]) (fun _ => rfl) (fun r_59 u_ p_59 => ?_)
        have p_59 : r_59 = lY sc qu fp (N (121 + d)) (N (131 + d)) := p_59
        refine r_iadd C dX12_lies_62 ?_
        exact e_i C () dX12_lies_63 (show (100 + r_59) = if 0 ≤ d ∧ d < N 141 ∧ 0 ≤ q ∧ q ≤ 1 then 100 + (if q = 0 then lX sc qu fp (N (121 + d)) (N (131 + d)) else lY sc qu fp (N (121 + d)) (N (131 + d))) else -1 from by rw [if_pos (by omega), if_neg (by omega), ← p_59]) rfl
      · skip
        refine r_aload_n C dX12_lies_25 0 rfl ?_
        refine r_iload_n C dX12_lies_26 1 rfl ?_
        refine r_aload_n C dX12_lies_27 0 rfl ?_
        refine gf_X12_19 C dX12_lies_28 0 rfl rfl ?_
        refine r_aload_n C dX12_lies_31 0 rfl ?_
        refine gf_X12_108 C dX12_lies_32 0 rfl rfl ?_
        refine r_aload_n C dX12_lies_35 0 rfl ?_
        refine gf_X12_111 C dX12_lies_36 0 rfl rfl ?_
        refine k_Vi C kv_X12_143 (fun sz => c_X12_liesX l g hM wi hi mN mC cm ca mL sc qu fp mT lm nw nh nr mF mR mD mA ii wo wd oe mK rm mH cn N d sc qu fp (by omega) nX nY k3 kt kf sz) dX12_lies_39 rfl rfl rfl ⟨rfl, rfl⟩ 0 11 rfl rfl rfl [0, 1] rfl rfl (fun _ => rfl) (ws' := fun u_ => [(hM, oB 11 [vi wi, vi hi, .ref mN, .ref mC, vi cm, vi ca, .ref mL, vi sc, vi qu, vi fp, .ref mT, vi lm, vi nw, vi nh, vi nr, .ref mF, .ref mR, .ref mD, .ref mA, vi ii, vi wo, vi wd, vi oe, .ref mK, vi rm, .ref mH, vi cn]), (mN, aI g 145 N)]) (fun _ => rfl) (fun r_39 u_ p_39 => ?_)
        have p_39 : r_39 = lX sc qu fp (N (121 + d)) (N (131 + d)) := p_39
        refine r_goto C 62 dX12_lies_42 rfl ?_
        refine r_iadd C dX12_lies_62 ?_
        exact e_i C () dX12_lies_63 (show (100 + r_39) = if 0 ≤ d ∧ d < N 141 ∧ 0 ≤ q ∧ q ≤ 1 then 100 + (if q = 0 then lX sc qu fp (N (121 + d)) (N (131 + d)) else lY sc qu fp (N (121 + d)) (N (131 + d))) else -1 from by rw [if_pos (by omega), if_pos (by omega), ← p_39]) rfl
    · skip
      refine r_iconst C dX12_lies_17 ?_
      exact e_i C () dX12_lies_18 (show (-1) = if 0 ≤ d ∧ d < N 141 ∧ 0 ≤ q ∧ q ≤ 1 then 100 + (if q = 0 then lX sc qu fp (N (121 + d)) (N (131 + d)) else lY sc qu fp (N (121 + d)) (N (131 + d))) else -1 from by rw [if_neg (by omega)]) rfl
