set_option maxHeartbeats 8000000 in
set_option maxRecDepth 200000 in
theorem law_loop {p_ : Program} {l : Launch} {e_ : Env} {s_ : State} {m_ : MethodId} {below_ : List Frame} {meth_ : Method} {c_ : Code} {g : Gx} {b0 L9 : Nat} {xs : Nat → Int32} (C : CX g RL cL_law 4 ret (va_A [] s_.heap.size) p_ s_ m_ #[Value.ref b0] meth_ c_) (hX9 : va_X b0 L9 xs s_ s_.heap) (hbl : b0 < s_.heap.size) (hL9 : L9 ≤ 2048) {hE ha hal he hes hesr hesx hesy hh hhq hhb g0 g0r g0x g0y g1 g1r g1x g1y g2 g2r g2x g2y g3 g3r g3x g3y g4 g4r g4x g4y g5 g5r g5x g5y h0 h0r h0x h0y hb hbr hbg hd hdf hr hrs hrsx hrsy hrf hr1 hr2 hr3 hr4 hs hsx hsy hf ht htr hM mN mC mL mT mF mR mD mA mK mH : Nat} : ∀ (k9 : Nat) (i : Int) {sc tn fl fs rs len td rw9 wr hr9 nr9 mr cr nx hz w h n m c bs fw fh fo cc cb n1 l1 r1 t1 b1 i1 w1 d1 o1 n8 l8 r8 t8 b8 i8 w8 d8 o8 nw nh nr ii wo wd oe rm cn : Int} {L fr Xr Yr bz f X Y rk gn D P1 Q1 T Fp O9 Ch P8 Q8 Td N Cg Lg Tx Fr R9 D9 Fa Kr H9 : Int → Int} {gs : Int → SCT}, TXT len L Tx → RDX Xr Yr → CRL w h f X Y n m c nx hz bz gs bs rk gn N Cg Lg → FOK fs w h f m c D fw fh → ROK rs w h f X Y n m c T fo Fp Ch cc cb → LKO sc tn fl → FAB Fa → 0 ≤ i → (L9 : Int) - i < k9 → i ≤ 4096 → RUN g 4 p_ l e_ room_1 s_ m_ #[Value.ref b0] below_ meth_ c_ (va_A [] s_.heap.size) 600000 7302250 (lw_Z below_ #[Value.ref b0] s_) [(hE, oB 10 [.ref ha, .ref he, .ref h0, .ref hh, .ref hb, .ref hd, .ref hr, .ref hs, .ref hf, .ref ht, vi sc, vi tn, vi fl, vi fs, vi rs]), (ha, oB 7 [.ref hal, vi len]), (hal, aC g 200 L), (he, oB 5 [.ref hes, vi td, vi rw9]), (hes, oB 6 [vi wr, vi hr9, .ref hesr, .ref hesx, .ref hesy, vi nr9, vi mr, vi cr]), (hesr, aI g 11 fr), (hesx, aI g 10 Xr), (hesy, aI g 10 Yr), (hh, oB 3 [.ref hhq, .ref hhb, vi nx, vi hz]), (hhq, aQ g 6 (q6 g0 g1 g2 g3 g4 g5)), (hhb, aI g 6 bz), (g0, oB 6 [vi ((gs 0).1), vi ((gs 0).2.1), .ref g0r, .ref g0x, .ref g0y, vi ((gs 0).2.2.2.2.2.1), vi ((gs 0).2.2.2.2.2.2.1), vi ((gs 0).2.2.2.2.2.2.2)]), (g0r, aI g 11 ((gs 0).2.2.1)), (g0x, aI g 10 ((gs 0).2.2.2.1)), (g0y, aI g 10 ((gs 0).2.2.2.2.1)), (g1, oB 6 [vi ((gs 1).1), vi ((gs 1).2.1), .ref g1r, .ref g1x, .ref g1y, vi ((gs 1).2.2.2.2.2.1), vi ((gs 1).2.2.2.2.2.2.1), vi ((gs 1).2.2.2.2.2.2.2)]), (g1r, aI g 11 ((gs 1).2.2.1)), (g1x, aI g 10 ((gs 1).2.2.2.1)), (g1y, aI g 10 ((gs 1).2.2.2.2.1)), (g2, oB 6 [vi ((gs 2).1), vi ((gs 2).2.1), .ref g2r, .ref g2x, .ref g2y, vi ((gs 2).2.2.2.2.2.1), vi ((gs 2).2.2.2.2.2.2.1), vi ((gs 2).2.2.2.2.2.2.2)]), (g2r, aI g 11 ((gs 2).2.2.1)), (g2x, aI g 10 ((gs 2).2.2.2.1)), (g2y, aI g 10 ((gs 2).2.2.2.2.1)), (g3, oB 6 [vi ((gs 3).1), vi ((gs 3).2.1), .ref g3r, .ref g3x, .ref g3y, vi ((gs 3).2.2.2.2.2.1), vi ((gs 3).2.2.2.2.2.2.1), vi ((gs 3).2.2.2.2.2.2.2)]), (g3r, aI g 11 ((gs 3).2.2.1)), (g3x, aI g 10 ((gs 3).2.2.2.1)), (g3y, aI g 10 ((gs 3).2.2.2.2.1)), (g4, oB 6 [vi ((gs 4).1), vi ((gs 4).2.1), .ref g4r, .ref g4x, .ref g4y, vi ((gs 4).2.2.2.2.2.1), vi ((gs 4).2.2.2.2.2.2.1), vi ((gs 4).2.2.2.2.2.2.2)]), (g4r, aI g 11 ((gs 4).2.2.1)), (g4x, aI g 10 ((gs 4).2.2.2.1)), (g4y, aI g 10 ((gs 4).2.2.2.2.1)), (g5, oB 6 [vi ((gs 5).1), vi ((gs 5).2.1), .ref g5r, .ref g5x, .ref g5y, vi ((gs 5).2.2.2.2.2.1), vi ((gs 5).2.2.2.2.2.2.1), vi ((gs 5).2.2.2.2.2.2.2)]), (g5r, aI g 11 ((gs 5).2.2.1)), (g5x, aI g 10 ((gs 5).2.2.2.1)), (g5y, aI g 10 ((gs 5).2.2.2.2.1)), (h0, oB 6 [vi w, vi h, .ref h0r, .ref h0x, .ref h0y, vi n, vi m, vi c]), (h0r, aI g 11 f), (h0x, aI g 10 X), (h0y, aI g 10 Y), (hb, oB 0 [.ref hbr, .ref hbg, vi bs]), (hbr, aI g 8 rk), (hbg, aI g 8 gn), (hd, oB 1 [.ref hdf, vi fw, vi fh]), (hdf, aI g 169 D), (hr, oB 4 [.ref hrs, .ref hrf, .ref hr1, vi fo, .ref hr2, .ref hr3, .ref hr4, vi cc, vi cb]), (hrs, oB 8 [.ref hrsx, .ref hrsy, vi n1, vi l1, vi r1, vi t1, vi b1]), (hrsx, aI g 10 P1), (hrsy, aI g 10 Q1), (hrf, oB 2 [vi i1, vi w1, vi d1, vi o1]), (hr1, aI g 10 T), (hr2, aI g 121 Fp), (hr3, aZ g 121 O9), (hr4, aI g 10 Ch), (hs, oB 8 [.ref hsx, .ref hsy, vi n8, vi l8, vi r8, vi t8, vi b8]), (hsx, aI g 10 P8), (hsy, aI g 10 Q8), (hf, oB 2 [vi i8, vi w8, vi d8, vi o8]), (ht, oB 9 [.ref htr]), (htr, aI g 11 Td), (hM, oB 11 [vi w, vi h, .ref mN, .ref mC, vi hz, vi nx, .ref mL, vi sc, vi tn, vi fl, .ref mT, vi len, vi nw, vi nh, vi nr, .ref mF, .ref mR, .ref mD, .ref mA, vi ii, vi wo, vi wd, vi oe, .ref mK, vi rm, .ref mH, vi cn]), (mN, aI g 145 N), (mC, aI g 870 Cg), (mL, aI g 56 Lg), (mT, aI g 200 Tx), (mF, aI g 145 Fr), (mR, aI g 10 R9), (mD, aI g 12 D9), (mA, aI g 121 Fa), (mK, aI g 2904 Kr), (mH, aI g 10 H9)] 18 [(3, vi i), (2, .ref hM), (1, .ref hE), (0, .ref b0)] [] := by
  intro k9
  induction k9 with
  | zero =>
    intro i sc tn fl fs rs len td rw9 wr hr9 nr9 mr cr nx hz w h n m c bs fw fh fo cc cb n1 l1 r1 t1 b1 i1 w1 d1 o1 n8 l8 r8 t8 b8 i8 w8 d8 o8 nw nh nr ii wo wd oe rm cn L fr Xr Yr bz f X Y rk gn D P1 Q1 T Fp O9 Ch P8 Q8 Td N Cg Lg Tx Fr R9 D9 Fa Kr H9 gs jT jX jC jF jK jL jA hi0 hk hi9
    refine r_iload_n C dL_law_18 0 rfl ?_
    refine r_aload_n C dL_law_19 3 rfl ?_
    refine r_slen C hX9 hbl (noA hbl) dL_law_20 ?_
    refine r_iconst C dL_law_21 ?_
    refine r_isub C dL_law_22 ?_
    refine r_icmp_gt C 899 dL_law_23 rfl (by omega) (fun c9 => ?_) (fun c9 => ?_)
    · refine r_iconst C dL_law_899 ?_
      exact r_fin C dL_law_900
    · exact absurd hk (by omega)
  | succ k9 ih =>
    intro i sc tn fl fs rs len td rw9 wr hr9 nr9 mr cr nx hz w h n m c bs fw fh fo cc cb n1 l1 r1 t1 b1 i1 w1 d1 o1 n8 l8 r8 t8 b8 i8 w8 d8 o8 nw nh nr ii wo wd oe rm cn L fr Xr Yr bz f X Y rk gn D P1 Q1 T Fp O9 Ch P8 Q8 Td N Cg Lg Tx Fr R9 D9 Fa Kr H9 gs jT jX jC jF jK jL jA hi0 hk hi9
    refine r_iload_n C dL_law_18 0 rfl ?_
    refine r_aload_n C dL_law_19 3 rfl ?_
    refine r_slen C hX9 hbl (noA hbl) dL_law_20 ?_
    refine r_iconst C dL_law_21 ?_
    refine r_isub C dL_law_22 ?_
    refine r_icmp_gt C 899 dL_law_23 rfl (by omega) (fun c9 => ?_) (fun c9 => ?_)
    · refine r_iconst C dL_law_899 ?_
      exact r_fin C dL_law_900
    have J_ : ∀ {sc tn fl fs rs len td rw9 wr hr9 nr9 mr cr nx hz w h n m c bs fw fh fo cc cb n1 l1 r1 t1 b1 i1 w1 d1 o1 n8 l8 r8 t8 b8 i8 w8 d8 o8 nw nh nr ii wo wd oe rm cn : Int} {L fr Xr Yr bz f X Y rk gn D P1 Q1 T Fp O9 Ch P8 Q8 Td N Cg Lg Tx Fr R9 D9 Fa Kr H9 : Int → Int} {gs : Int → SCT}, TXT len L Tx → RDX Xr Yr → CRL w h f X Y n m c nx hz bz gs bs rk gn N Cg Lg → FOK fs w h f m c D fw fh → ROK rs w h f X Y n m c T fo Fp Ch cc cb → LKO sc tn fl → FAB Fa → RUN g 4 p_ l e_ room_1 s_ m_ #[Value.ref b0] below_ meth_ c_ (va_A [] s_.heap.size) 600000 7302250 (lw_Z below_ #[Value.ref b0] s_) [(hE, oB 10 [.ref ha, .ref he, .ref h0, .ref hh, .ref hb, .ref hd, .ref hr, .ref hs, .ref hf, .ref ht, vi sc, vi tn, vi fl, vi fs, vi rs]), (ha, oB 7 [.ref hal, vi len]), (hal, aC g 200 L), (he, oB 5 [.ref hes, vi td, vi rw9]), (hes, oB 6 [vi wr, vi hr9, .ref hesr, .ref hesx, .ref hesy, vi nr9, vi mr, vi cr]), (hesr, aI g 11 fr), (hesx, aI g 10 Xr), (hesy, aI g 10 Yr), (hh, oB 3 [.ref hhq, .ref hhb, vi nx, vi hz]), (hhq, aQ g 6 (q6 g0 g1 g2 g3 g4 g5)), (hhb, aI g 6 bz), (g0, oB 6 [vi ((gs 0).1), vi ((gs 0).2.1), .ref g0r, .ref g0x, .ref g0y, vi ((gs 0).2.2.2.2.2.1), vi ((gs 0).2.2.2.2.2.2.1), vi ((gs 0).2.2.2.2.2.2.2)]), (g0r, aI g 11 ((gs 0).2.2.1)), (g0x, aI g 10 ((gs 0).2.2.2.1)), (g0y, aI g 10 ((gs 0).2.2.2.2.1)), (g1, oB 6 [vi ((gs 1).1), vi ((gs 1).2.1), .ref g1r, .ref g1x, .ref g1y, vi ((gs 1).2.2.2.2.2.1), vi ((gs 1).2.2.2.2.2.2.1), vi ((gs 1).2.2.2.2.2.2.2)]), (g1r, aI g 11 ((gs 1).2.2.1)), (g1x, aI g 10 ((gs 1).2.2.2.1)), (g1y, aI g 10 ((gs 1).2.2.2.2.1)), (g2, oB 6 [vi ((gs 2).1), vi ((gs 2).2.1), .ref g2r, .ref g2x, .ref g2y, vi ((gs 2).2.2.2.2.2.1), vi ((gs 2).2.2.2.2.2.2.1), vi ((gs 2).2.2.2.2.2.2.2)]), (g2r, aI g 11 ((gs 2).2.2.1)), (g2x, aI g 10 ((gs 2).2.2.2.1)), (g2y, aI g 10 ((gs 2).2.2.2.2.1)), (g3, oB 6 [vi ((gs 3).1), vi ((gs 3).2.1), .ref g3r, .ref g3x, .ref g3y, vi ((gs 3).2.2.2.2.2.1), vi ((gs 3).2.2.2.2.2.2.1), vi ((gs 3).2.2.2.2.2.2.2)]), (g3r, aI g 11 ((gs 3).2.2.1)), (g3x, aI g 10 ((gs 3).2.2.2.1)), (g3y, aI g 10 ((gs 3).2.2.2.2.1)), (g4, oB 6 [vi ((gs 4).1), vi ((gs 4).2.1), .ref g4r, .ref g4x, .ref g4y, vi ((gs 4).2.2.2.2.2.1), vi ((gs 4).2.2.2.2.2.2.1), vi ((gs 4).2.2.2.2.2.2.2)]), (g4r, aI g 11 ((gs 4).2.2.1)), (g4x, aI g 10 ((gs 4).2.2.2.1)), (g4y, aI g 10 ((gs 4).2.2.2.2.1)), (g5, oB 6 [vi ((gs 5).1), vi ((gs 5).2.1), .ref g5r, .ref g5x, .ref g5y, vi ((gs 5).2.2.2.2.2.1), vi ((gs 5).2.2.2.2.2.2.1), vi ((gs 5).2.2.2.2.2.2.2)]), (g5r, aI g 11 ((gs 5).2.2.1)), (g5x, aI g 10 ((gs 5).2.2.2.1)), (g5y, aI g 10 ((gs 5).2.2.2.2.1)), (h0, oB 6 [vi w, vi h, .ref h0r, .ref h0x, .ref h0y, vi n, vi m, vi c]), (h0r, aI g 11 f), (h0x, aI g 10 X), (h0y, aI g 10 Y), (hb, oB 0 [.ref hbr, .ref hbg, vi bs]), (hbr, aI g 8 rk), (hbg, aI g 8 gn), (hd, oB 1 [.ref hdf, vi fw, vi fh]), (hdf, aI g 169 D), (hr, oB 4 [.ref hrs, .ref hrf, .ref hr1, vi fo, .ref hr2, .ref hr3, .ref hr4, vi cc, vi cb]), (hrs, oB 8 [.ref hrsx, .ref hrsy, vi n1, vi l1, vi r1, vi t1, vi b1]), (hrsx, aI g 10 P1), (hrsy, aI g 10 Q1), (hrf, oB 2 [vi i1, vi w1, vi d1, vi o1]), (hr1, aI g 10 T), (hr2, aI g 121 Fp), (hr3, aZ g 121 O9), (hr4, aI g 10 Ch), (hs, oB 8 [.ref hsx, .ref hsy, vi n8, vi l8, vi r8, vi t8, vi b8]), (hsx, aI g 10 P8), (hsy, aI g 10 Q8), (hf, oB 2 [vi i8, vi w8, vi d8, vi o8]), (ht, oB 9 [.ref htr]), (htr, aI g 11 Td), (hM, oB 11 [vi w, vi h, .ref mN, .ref mC, vi hz, vi nx, .ref mL, vi sc, vi tn, vi fl, .ref mT, vi len, vi nw, vi nh, vi nr, .ref mF, .ref mR, .ref mD, .ref mA, vi ii, vi wo, vi wd, vi oe, .ref mK, vi rm, .ref mH, vi cn]), (mN, aI g 145 N), (mC, aI g 870 Cg), (mL, aI g 56 Lg), (mT, aI g 200 Tx), (mF, aI g 145 Fr), (mR, aI g 10 R9), (mD, aI g 12 D9), (mA, aI g 121 Fa), (mK, aI g 2904 Kr), (mH, aI g 10 H9)] 893 [(3, vi i), (2, .ref hM), (1, .ref hE), (0, .ref b0)] [] := by
      intro sc tn fl fs rs len td rw9 wr hr9 nr9 mr cr nx hz w h n m c bs fw fh fo cc cb n1 l1 r1 t1 b1 i1 w1 d1 o1 n8 l8 r8 t8 b8 i8 w8 d8 o8 nw nh nr ii wo wd oe rm cn L fr Xr Yr bz f X Y rk gn D P1 Q1 T Fp O9 Ch P8 Q8 Td N Cg Lg Tx Fr R9 D9 Fa Kr H9 gs jT jX jC jF jK jL jA
      refine r_iinc C (lv' := [(3, vi (i + 4)), (2, .ref hM), (1, .ref hE), (0, .ref b0)]) dL_law_893 0 rfl rfl rfl ?_
      refine r_goto C 18 dL_law_896 rfl ?_
      exact ih (i + 4) jT jX jC jF jK jL jA (by omega) (by omega) (by omega)
    refine r_aload_n C dL_law_26 3 rfl ?_
    refine r_iload_n C dL_law_27 0 rfl ?_
    refine r_sld C hX9 hbl (noA hbl) hL9 (by omega) dL_law_28 ?_
    refine r_bipush C dL_law_29 rfl ?_
    refine r_iand C (z := an31 (sx xs i)) dL_law_31 (zI_self _).symm ?_
    have hb9 := an31_b (sx xs i)
    generalize an31 (sx xs i) = v9 at hb9 ⊢
    by_cases q0 : v9 = 0
    · refine r_tabIn C 148 (v := 0) dL_law_32 q0 (by omega) rfl rfl ?_
      exact w_write C hX9 hbl hL9 i (by omega) jT jX jC jF jK jL jA J_
    by_cases q1 : v9 = 1
    · refine r_tabIn C 171 (v := 1) dL_law_32 q1 (by omega) rfl rfl ?_
      exact w_wipe C hX9 hbl hL9 i (by omega) jT jX jC jF jK jL jA J_
    by_cases q2 : v9 = 2
    · refine r_tabIn C 184 (v := 2) dL_law_32 q2 (by omega) rfl rfl ?_
      exact w_fault C hX9 hbl hL9 i (by omega) jT jX jC jF jK jL jA J_
    by_cases q3 : v9 = 3
    · refine r_tabIn C 197 (v := 3) dL_law_32 q3 (by omega) rfl rfl ?_
      exact w_lay C hX9 hbl hL9 i (by omega) jT jX jC jF jK jL jA J_
    by_cases q4 : v9 = 4
    · refine r_tabIn C 210 (v := 4) dL_law_32 q4 (by omega) rfl rfl ?_
      exact w_edge C hX9 hbl hL9 i (by omega) jT jX jC jF jK jL jA J_
    by_cases q5 : v9 = 5
    · refine r_tabIn C 253 (v := 5) dL_law_32 q5 (by omega) rfl rfl ?_
      exact w_dot C hX9 hbl hL9 i (by omega) jT jX jC jF jK jL jA J_
    by_cases q6 : v9 = 6
    · refine r_tabIn C 286 (v := 6) dL_law_32 q6 (by omega) rfl rfl ?_
      exact w_drop C hX9 hbl hL9 i (by omega) jT jX jC jF jK jL jA J_
    by_cases q7 : v9 = 7
    · refine r_tabIn C 309 (v := 7) dL_law_32 q7 (by omega) rfl rfl ?_
      exact w_measure C hX9 hbl hL9 i (by omega) jT jX jC jF jK jL jA J_
    by_cases q8 : v9 = 8
    · refine r_tabIn C 342 (v := 8) dL_law_32 q8 (by omega) rfl rfl ?_
      exact w_undo C hX9 hbl hL9 i (by omega) jT jX jC jF jK jL jA J_
    by_cases q9 : v9 = 9
    · refine r_tabIn C 355 (v := 9) dL_law_32 q9 (by omega) rfl rfl ?_
      exact w_cell C hX9 hbl hL9 i (by omega) jT jX jC jF jK jL jA J_
    by_cases q10 : v9 = 10
    · refine r_tabIn C 388 (v := 10) dL_law_32 q10 (by omega) rfl rfl ?_
      exact w_far C hX9 hbl hL9 i (by omega) jT jX jC jF jK jL jA J_
    by_cases q11 : v9 = 11
    · refine r_tabIn C 421 (v := 11) dL_law_32 q11 (by omega) rfl rfl ?_
      exact w_nearest C hX9 hbl hL9 i (by omega) jT jX jC jF jK jL jA J_
    by_cases q12 : v9 = 12
    · refine r_tabIn C 454 (v := 12) dL_law_32 q12 (by omega) rfl rfl ?_
      exact w_rings C hX9 hbl hL9 i (by omega) jT jX jC jF jK jL jA J_
    by_cases q13 : v9 = 13
    · refine r_tabIn C 477 (v := 13) dL_law_32 q13 (by omega) rfl rfl ?_
      exact w_turn C hX9 hbl hL9 i (by omega) jT jX jC jF jK jL jA J_
    by_cases q14 : v9 = 14
    · refine r_tabIn C 520 (v := 14) dL_law_32 q14 (by omega) rfl rfl ?_
      exact w_lies C hX9 hbl hL9 i (by omega) jT jX jC jF jK jL jA J_
    by_cases q15 : v9 = 15
    · refine r_tabIn C 553 (v := 15) dL_law_32 q15 (by omega) rfl rfl ?_
      exact w_pose C hX9 hbl hL9 i (by omega) jT jX jC jF jK jL jA J_
    by_cases q16 : v9 = 16
    · refine r_tabIn C 596 (v := 16) dL_law_32 q16 (by omega) rfl rfl ?_
      exact w_fits C hX9 hbl hL9 i (by omega) jT jX jC jF jK jL jA J_
    by_cases q17 : v9 = 17
    · refine r_tabIn C 609 (v := 17) dL_law_32 q17 (by omega) rfl rfl ?_
      exact w_bound C hX9 hbl hL9 i (by omega) jT jX jC jF jK jL jA J_
    by_cases q18 : v9 = 18
    · refine r_tabIn C 652 (v := 18) dL_law_32 q18 (by omega) rfl rfl ?_
      exact w_tells C hX9 hbl hL9 i (by omega) jT jX jC jF jK jL jA J_
    by_cases q19 : v9 = 19
    · refine r_tabIn C 695 (v := 19) dL_law_32 q19 (by omega) rfl rfl ?_
      exact w_best C hX9 hbl hL9 i (by omega) jT jX jC jF jK jL jA J_
    by_cases q20 : v9 = 20
    · refine r_tabIn C 728 (v := 20) dL_law_32 q20 (by omega) rfl rfl ?_
      exact w_spread C hX9 hbl hL9 i (by omega) jT jX jC jF jK jL jA J_
    by_cases q21 : v9 = 21
    · refine r_tabIn C 771 (v := 21) dL_law_32 q21 (by omega) rfl rfl ?_
      exact w_take C hX9 hbl hL9 i (by omega) jT jX jC jF jK jL jA J_
    by_cases q22 : v9 = 22
    · refine r_tabIn C 804 (v := 22) dL_law_32 q22 (by omega) rfl rfl ?_
      exact w_takes C hX9 hbl hL9 i (by omega) jT jX jC jF jK jL jA J_
    by_cases q23 : v9 = 23
    · refine r_tabIn C 837 (v := 23) dL_law_32 q23 (by omega) rfl rfl ?_
      exact w_ledger C hX9 hbl hL9 i (by omega) jT jX jC jF jK jL jA J_
    by_cases q24 : v9 = 24
    · refine r_tabIn C 870 (v := 24) dL_law_32 q24 (by omega) rfl rfl ?_
      exact w_count C hX9 hbl hL9 i (by omega) jT jX jC jF jK jL jA J_
    refine r_tabOut C 893 dL_law_32 hb9 (by omega) rfl ?_
    exact J_ jT jX jC jF jK jL jA
