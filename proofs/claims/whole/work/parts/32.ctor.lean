theorem dfX0 : ∀ j, j < 3 → defaultValue (tyX0 j) = vp_V [.null, .null, vi 0] j := by
  intro j hj
  rcases (by omega : j = 0 ∨ j = 1 ∨ j = 2) with rfl | rfl | rfl <;> rfl
theorem dfX1 : ∀ j, j < 3 → defaultValue (tyX1 j) = vp_V [.null, vi 0, vi 0] j := by
  intro j hj
  rcases (by omega : j = 0 ∨ j = 1 ∨ j = 2) with rfl | rfl | rfl <;> rfl
theorem dfX2 : ∀ j, j < 4 → defaultValue (tyX2 j) = vp_V [vi 0, vi 0, vi 0, vi 0] j := by
  intro j hj
  rcases (by omega : j = 0 ∨ j = 1 ∨ j = 2 ∨ j = 3) with rfl | rfl | rfl | rfl <;> rfl
theorem dfX3 : ∀ j, j < 4 → defaultValue (tyX3 j) = vp_V [.null, .null, vi 0, vi 0] j := by
  intro j hj
  rcases (by omega : j = 0 ∨ j = 1 ∨ j = 2 ∨ j = 3) with rfl | rfl | rfl | rfl <;> rfl
theorem dfX5 : ∀ j, j < 9 → defaultValue (tyX5 j) = vp_V [.null, .null, .null, vi 0, .null, .null, .null, vi 0, vi 0] j := by
  intro j hj
  rcases (by omega : j = 0 ∨ j = 1 ∨ j = 2 ∨ j = 3 ∨ j = 4 ∨ j = 5 ∨ j = 6 ∨ j = 7 ∨ j = 8) with rfl | rfl | rfl | rfl | rfl | rfl | rfl | rfl | rfl <;> rfl
theorem dfX6 : ∀ j, j < 3 → defaultValue (tyX6 j) = vp_V [.null, vi 0, vi 0] j := by
  intro j hj
  rcases (by omega : j = 0 ∨ j = 1 ∨ j = 2) with rfl | rfl | rfl <;> rfl
theorem dfX7 : ∀ j, j < 8 → defaultValue (tyX7 j) = vp_V [vi 0, vi 0, .null, .null, .null, vi 0, vi 0, vi 0] j := by
  intro j hj
  rcases (by omega : j = 0 ∨ j = 1 ∨ j = 2 ∨ j = 3 ∨ j = 4 ∨ j = 5 ∨ j = 6 ∨ j = 7) with rfl | rfl | rfl | rfl | rfl | rfl | rfl | rfl <;> rfl
theorem dfX8 : ∀ j, j < 2 → defaultValue (tyX8 j) = vp_V [.null, vi 0] j := by
  intro j hj
  rcases (by omega : j = 0 ∨ j = 1) with rfl | rfl <;> rfl
theorem dfX9 : ∀ j, j < 7 → defaultValue (tyX9 j) = vp_V [.null, .null, vi 0, vi 0, vi 0, vi 0, vi 0] j := by
  intro j hj
  rcases (by omega : j = 0 ∨ j = 1 ∨ j = 2 ∨ j = 3 ∨ j = 4 ∨ j = 5 ∨ j = 6) with rfl | rfl | rfl | rfl | rfl | rfl | rfl <;> rfl
theorem dfX10 : ∀ j, j < 1 → defaultValue (tyX10 j) = vp_V [.null] j := by
  intro j hj
  rcases (by omega : j = 0) with rfl <;> rfl
theorem dfX11 : ∀ j, j < 15 → defaultValue (tyX11 j) = vp_V [.null, .null, .null, .null, .null, .null, .null, .null, .null, .null, vi 0, vi 0, vi 0, vi 0, vi 0] j := by
  intro j hj
  rcases (by omega : j = 0 ∨ j = 1 ∨ j = 2 ∨ j = 3 ∨ j = 4 ∨ j = 5 ∨ j = 6 ∨ j = 7 ∨ j = 8 ∨ j = 9 ∨ j = 10 ∨ j = 11 ∨ j = 12 ∨ j = 13 ∨ j = 14) with rfl | rfl | rfl | rfl | rfl | rfl | rfl | rfl | rfl | rfl | rfl | rfl | rfl | rfl | rfl <;> rfl
theorem dfX12 : ∀ j, j < 27 → defaultValue (tyX12 j) = vp_V [vi 0, vi 0, .null, .null, vi 0, vi 0, .null, vi 0, vi 0, vi 0, .null, vi 0, vi 0, vi 0, vi 0, .null, .null, .null, .null, vi 0, vi 0, vi 0, vi 0, .null, vi 0, .null, vi 0] j := by
  intro j hj
  rcases (by omega : j = 0 ∨ j = 1 ∨ j = 2 ∨ j = 3 ∨ j = 4 ∨ j = 5 ∨ j = 6 ∨ j = 7 ∨ j = 8 ∨ j = 9 ∨ j = 10 ∨ j = 11 ∨ j = 12 ∨ j = 13 ∨ j = 14 ∨ j = 15 ∨ j = 16 ∨ j = 17 ∨ j = 18 ∨ j = 19 ∨ j = 20 ∨ j = 21 ∨ j = 22 ∨ j = 23 ∨ j = 24 ∨ j = 25 ∨ j = 26) with rfl | rfl | rfl | rfl | rfl | rfl | rfl | rfl | rfl | rfl | rfl | rfl | rfl | rfl | rfl | rfl | rfl | rfl | rfl | rfl | rfl | rfl | rfl | rfl | rfl | rfl | rfl <;> rfl
theorem ki_X6_11 : KI RX6 11 RX11 yX7_init cX7_init 1 := ⟨(List.mem_of_getElem? (i := 2) rfl), (in_r3 (List.mem_of_getElem? (i := 22) rfl)), (in_r1 (List.mem_of_getElem? (i := 22) rfl)), (in_r3 (List.mem_of_getElem? (i := 23) rfl)), rfl, by decide +kernel⟩
theorem ki_X3_28 : KI RX3 28 RX11 yX7_init cX7_init 1 := ⟨(List.mem_of_getElem? (i := 4) rfl), (in_r3 (List.mem_of_getElem? (i := 22) rfl)), (in_r1 (List.mem_of_getElem? (i := 22) rfl)), (in_r3 (List.mem_of_getElem? (i := 23) rfl)), rfl, by decide +kernel⟩
theorem ki_X5_11 : KI RX5 11 RX11 yX9_init cX9_init 1 := ⟨(List.mem_of_getElem? (i := 8) rfl), (in_r5 (List.mem_of_getElem? (i := 22) rfl)), (in_r2 (List.mem_of_getElem? (i := 18) rfl)), (in_r5 (List.mem_of_getElem? (i := 23) rfl)), rfl, by decide +kernel⟩
theorem ki_X5_20 : KI RX5 20 RX11 yX2_init cX2_init 1 := ⟨(List.mem_of_getElem? (i := 9) rfl), (in_r6 (List.mem_of_getElem? (i := 8) rfl)), (in_r2 (List.mem_of_getElem? (i := 22) rfl)), (in_r6 (List.mem_of_getElem? (i := 9) rfl)), rfl, by decide +kernel⟩
theorem ki_X11_9 : KI RX11 9 RX11 yX8_init cX8_init 1 := ⟨(List.mem_of_getElem? (i := 0) rfl), (in_r3 (List.mem_of_getElem? (i := 9) rfl)), (in_r1 (List.mem_of_getElem? (i := 14) rfl)), (in_r3 (List.mem_of_getElem? (i := 10) rfl)), rfl, by decide +kernel⟩
theorem ki_X11_18 : KI RX11 18 RX11 yX6_init cX6_init 1 := ⟨(List.mem_of_getElem? (i := 1) rfl), (in_r3 (List.mem_of_getElem? (i := 15) rfl)), (in_r1 (List.mem_of_getElem? (i := 18) rfl)), (in_r3 (List.mem_of_getElem? (i := 16) rfl)), rfl, by decide +kernel⟩
theorem ki_X11_25 : KI RX11 25 RX11 yX7_init cX7_init 1 := ⟨(List.mem_of_getElem? (i := 3) rfl), (in_r3 (List.mem_of_getElem? (i := 22) rfl)), (in_r1 (List.mem_of_getElem? (i := 22) rfl)), (in_r3 (List.mem_of_getElem? (i := 23) rfl)), rfl, by decide +kernel⟩
theorem kj_X11_32 : KJ RX11 32 yX3_init cX3_init 2 := ⟨(in_r4 (List.mem_of_getElem? (i := 10) rfl)), (in_r4 (List.mem_of_getElem? (i := 11) rfl)), (in_r2 (List.mem_of_getElem? (i := 2) rfl)), (in_r4 (List.mem_of_getElem? (i := 12) rfl)), rfl, by decide +kernel⟩
theorem ki_X11_39 : KI RX11 39 RX11 yX0_init cX0_init 1 := ⟨(List.mem_of_getElem? (i := 5) rfl), (in_r4 (List.mem_of_getElem? (i := 19) rfl)), (in_r2 (List.mem_of_getElem? (i := 6) rfl)), (in_r4 (List.mem_of_getElem? (i := 20) rfl)), rfl, by decide +kernel⟩
theorem ki_X11_46 : KI RX11 46 RX11 yX1_init cX1_init 1 := ⟨(List.mem_of_getElem? (i := 6) rfl), (in_r5 (List.mem_of_getElem? (i := 1) rfl)), (in_r2 (List.mem_of_getElem? (i := 10) rfl)), (in_r5 (List.mem_of_getElem? (i := 2) rfl)), rfl, by decide +kernel⟩
theorem ki_X11_53 : KI RX11 53 RX11 yX5_init cX5_init 1 := ⟨(List.mem_of_getElem? (i := 7) rfl), (in_r5 (List.mem_of_getElem? (i := 7) rfl)), (in_r2 (List.mem_of_getElem? (i := 14) rfl)), (in_r5 (List.mem_of_getElem? (i := 8) rfl)), rfl, by decide +kernel⟩
theorem ki_X11_60 : KI RX11 60 RX11 yX9_init cX9_init 1 := ⟨(List.mem_of_getElem? (i := 10) rfl), (in_r5 (List.mem_of_getElem? (i := 22) rfl)), (in_r2 (List.mem_of_getElem? (i := 18) rfl)), (in_r5 (List.mem_of_getElem? (i := 23) rfl)), rfl, by decide +kernel⟩
theorem ki_X11_67 : KI RX11 67 RX11 yX2_init cX2_init 1 := ⟨(List.mem_of_getElem? (i := 11) rfl), (in_r6 (List.mem_of_getElem? (i := 8) rfl)), (in_r2 (List.mem_of_getElem? (i := 22) rfl)), (in_r6 (List.mem_of_getElem? (i := 9) rfl)), rfl, by decide +kernel⟩
theorem ki_X11_74 : KI RX11 74 RX11 yX10_init cX10_init 1 := ⟨(List.mem_of_getElem? (i := 12) rfl), (in_r6 (List.mem_of_getElem? (i := 15) rfl)), (in_r3 (List.mem_of_getElem? (i := 2) rfl)), (in_r6 (List.mem_of_getElem? (i := 16) rfl)), rfl, by decide +kernel⟩
section
variable {g : Gx} {own : String} {cc : ByteArray} {nL : Nat} {ret : Option FieldType} {p : Program} {l : Launch} {e : Env} {R : Room} {s : State} {m : MethodId} {args : Array Value} {below : List Frame} {meth : Method} {c : Code} {A : Nat → Prop} {cells slots : Nat} {Q : State → Prop} {ws : va_W} {pc : Nat} {lv : List (Nat × Value)} {st : List Value}
theorem r_extq (C : CX g own cc nL ret A p s m args meth c) {a n : Nat} {f f' : Nat → Option Nat} {ws' : va_W} (q0 : Nat) (hq : ws[q0]? = some (a, aQ g n f)) (h : ∀ k : Nat, k < n → f k = f' k) (hw : ws.set q0 (a, aQ g n f') = ws') (k : RUN g nL p l e R s m args below meth c A cells slots Q ws' pc lv st) : RUN g nL p l e R s m args below meth c A cells slots Q ws pc lv st := fun ls H locs h1 h2 h3 h4 => by
  subst hw
  refine k ls H locs h1 (h2.set h3 hq ?_ (fun _ _ => rfl)) (h3.set hq) h4
  have e1 := h2 q0 _ hq
  show H[a]? = some (vp_cell g.2.2.2.2 (n, .inr (.inr (.inr (.inr f')))))
  rw [show vp_cell g.2.2.2.2 (n, .inr (.inr (.inr (.inr f')))) = vp_cell g.2.2.2.2 (n, .inr (.inr (.inr (.inr f)))) from ?_]
  · exact e1
  · simp only [vp_cell, arrV]
    congr 1
    congr 1
    funext j
    rw [h j.val j.isLt]
end
set_option maxHeartbeats 2000000 in
set_option maxRecDepth 100000 in
theorem c_X0_init (l : Launch) (g : Gx) (a : Nat) (sz : Nat) : Met l yX0_init (.code yX0_init cX0_init 1 none :: wsL_law) { frames := 1, cells := 2, slots := 16, locals := 12 } (PRo g [.ref a] [(a, oB 0 [.null, .null, vi 0])] sz) (PV (S := Nat × Nat) g (fun u_ => True) (fun u_ => [(a, oB 0 [.ref u_.1, .ref u_.2, vi 0]), (u_.1, aI g 8 (fun _ => 0)), (u_.2, aI g 8 (fun _ => 0))]) [(a, oB 0 [.null, .null, vi 0])] sz) 2 16 (va_A [(a, oB 0 [.null, .null, vi 0])] sz) := by
  refine meetO (own := RX0) rfl (plainFor_of_name (by decide +kernel)) rfl (fun p_ e_ s_ m_ args_ below_ meth_ c_ C hnm hAO => ?_)
  refine r_at (ws' := [(a, oB 0 [.null, .null, vi 0])]) (lv' := [(0, .ref a)]) rfl rfl ?_
  refine r_aload_n C dX0_init_0 0 rfl ?_
  refine r_objInit C (in_r4 (List.mem_of_getElem? (i := 21) rfl)) dX0_init_1 rfl ?_
  refine r_aload_n C dX0_init_4 0 rfl ?_
  refine r_bipush C dX0_init_5 rfl ?_
  refine r_newi C 8 (in_r4 (List.mem_of_getElem? (i := 3) rfl)) dX0_init_7 rfl rfl rfl (fun q_1 => ?_)
  refine r_at (ws' := [(a, oB 0 [.null, .null, vi 0]), (q_1, aI g 8 (fun _ => 0))]) (lv' := [(0, .ref a)]) rfl rfl ?_
  refine pf_X0_9 C (ws' := [(a, oB 0 [.ref q_1, .null, vi 0]), (q_1, aI g 8 (fun _ => 0))]) hnm dX0_init_9 0 rfl (Nat.le_of_ble_eq_true rfl) rfl ?_
  refine r_aload_n C dX0_init_12 0 rfl ?_
  refine r_bipush C dX0_init_13 rfl ?_
  refine r_newi C 8 (in_r4 (List.mem_of_getElem? (i := 3) rfl)) dX0_init_15 rfl rfl rfl (fun q_2 => ?_)
  refine r_at (ws' := [(a, oB 0 [.ref q_1, .null, vi 0]), (q_1, aI g 8 (fun _ => 0)), (q_2, aI g 8 (fun _ => 0))]) (lv' := [(0, .ref a)]) rfl rfl ?_
  refine pf_X0_15 C (ws' := [(a, oB 0 [.ref q_1, .ref q_2, vi 0]), (q_1, aI g 8 (fun _ => 0)), (q_2, aI g 8 (fun _ => 0))]) hnm dX0_init_17 0 rfl (Nat.le_of_ble_eq_true rfl) rfl ?_
  refine r_aload_n C dX0_init_20 0 rfl ?_
  refine r_iconst C dX0_init_21 ?_
  refine pf_X0_18 C (ws' := [(a, oB 0 [.ref q_1, .ref q_2, vi 0]), (q_1, aI g 8 (fun _ => 0)), (q_2, aI g 8 (fun _ => 0))]) dX0_init_22 0 rfl (Nat.le_of_ble_eq_true rfl) rfl ?_
  exact e_vM C (q_1, q_2) dX0_init_25 (trivial) rfl rfl rfl
set_option maxHeartbeats 2000000 in
set_option maxRecDepth 100000 in
theorem c_X1_init (l : Launch) (g : Gx) (a : Nat) (sz : Nat) : Met l yX1_init (.code yX1_init cX1_init 1 none :: wsL_law) { frames := 1, cells := 1, slots := 169, locals := 12 } (PRo g [.ref a] [(a, oB 1 [.null, vi 0, vi 0])] sz) (PV (S := Nat) g (fun u_ => True) (fun u_ => [(a, oB 1 [.ref u_, vi 0, vi 0]), (u_, aI g 169 (fun _ => 0))]) [(a, oB 1 [.null, vi 0, vi 0])] sz) 1 169 (va_A [(a, oB 1 [.null, vi 0, vi 0])] sz) := by
  refine meetO (own := RX1) rfl (plainFor_of_name (by decide +kernel)) rfl (fun p_ e_ s_ m_ args_ below_ meth_ c_ C hnm hAO => ?_)
  refine r_at (ws' := [(a, oB 1 [.null, vi 0, vi 0])]) (lv' := [(0, .ref a)]) rfl rfl ?_
  refine r_aload_n C dX1_init_0 0 rfl ?_
  refine r_objInit C (in_r5 (List.mem_of_getElem? (i := 3) rfl)) dX1_init_1 rfl ?_
  refine r_aload_n C dX1_init_4 0 rfl ?_
  refine r_sipush C dX1_init_5 rfl ?_
  refine r_newi C 169 (in_r4 (List.mem_of_getElem? (i := 3) rfl)) dX1_init_8 rfl rfl rfl (fun q_1 => ?_)
  refine r_at (ws' := [(a, oB 1 [.null, vi 0, vi 0]), (q_1, aI g 169 (fun _ => 0))]) (lv' := [(0, .ref a)]) rfl rfl ?_
  refine pf_X1_11 C (ws' := [(a, oB 1 [.ref q_1, vi 0, vi 0]), (q_1, aI g 169 (fun _ => 0))]) hnm dX1_init_10 0 rfl (Nat.le_of_ble_eq_true rfl) rfl ?_
  refine r_aload_n C dX1_init_13 0 rfl ?_
  refine r_iconst C dX1_init_14 ?_
  refine pf_X1_15 C (ws' := [(a, oB 1 [.ref q_1, vi 0, vi 0]), (q_1, aI g 169 (fun _ => 0))]) dX1_init_15 0 rfl (Nat.le_of_ble_eq_true rfl) rfl ?_
  refine r_aload_n C dX1_init_18 0 rfl ?_
  refine r_iconst C dX1_init_19 ?_
  refine pf_X1_19 C (ws' := [(a, oB 1 [.ref q_1, vi 0, vi 0]), (q_1, aI g 169 (fun _ => 0))]) dX1_init_20 0 rfl (Nat.le_of_ble_eq_true rfl) rfl ?_
  exact e_vM C q_1 dX1_init_23 (trivial) rfl rfl rfl
set_option maxHeartbeats 2000000 in
set_option maxRecDepth 100000 in
theorem c_X2_init (l : Launch) (g : Gx) (a : Nat) (sz : Nat) : Met l yX2_init (.code yX2_init cX2_init 1 none :: wsL_law) { frames := 1, cells := 0, slots := 0, locals := 12 } (PRo g [.ref a] [(a, oB 2 [vi 0, vi 0, vi 0, vi 0])] sz) (PV (S := Unit) g (fun u_ => True) (fun u_ => [(a, oB 2 [vi 0, vi 0, vi 0, vi 0])]) [(a, oB 2 [vi 0, vi 0, vi 0, vi 0])] sz) 0 0 (va_A [(a, oB 2 [vi 0, vi 0, vi 0, vi 0])] sz) := by
  refine meetO (own := RX2) rfl (plainFor_of_name (by decide +kernel)) rfl (fun p_ e_ s_ m_ args_ below_ meth_ c_ C hnm hAO => ?_)
  refine r_at (ws' := [(a, oB 2 [vi 0, vi 0, vi 0, vi 0])]) (lv' := [(0, .ref a)]) rfl rfl ?_
  refine r_aload_n C dX2_init_0 0 rfl ?_
  refine r_objInit C (in_r6 (List.mem_of_getElem? (i := 10) rfl)) dX2_init_1 rfl ?_
  refine r_aload_n C dX2_init_4 0 rfl ?_
  refine r_iconst C dX2_init_5 ?_
  refine pf_X2_7 C (ws' := [(a, oB 2 [vi 0, vi 0, vi 0, vi 0])]) dX2_init_6 0 rfl (Nat.le_of_ble_eq_true rfl) rfl ?_
  refine r_aload_n C dX2_init_9 0 rfl ?_
  refine r_iconst C dX2_init_10 ?_
  refine pf_X2_13 C (ws' := [(a, oB 2 [vi 0, vi 0, vi 0, vi 0])]) dX2_init_11 0 rfl (Nat.le_of_ble_eq_true rfl) rfl ?_
  refine r_aload_n C dX2_init_14 0 rfl ?_
  refine r_iconst C dX2_init_15 ?_
  refine pf_X2_16 C (ws' := [(a, oB 2 [vi 0, vi 0, vi 0, vi 0])]) dX2_init_16 0 rfl (Nat.le_of_ble_eq_true rfl) rfl ?_
  refine r_aload_n C dX2_init_19 0 rfl ?_
  refine r_iconst C dX2_init_20 ?_
  refine pf_X2_19 C (ws' := [(a, oB 2 [vi 0, vi 0, vi 0, vi 0])]) dX2_init_21 0 rfl (Nat.le_of_ble_eq_true rfl) rfl ?_
  exact e_vM C () dX2_init_24 (trivial) rfl rfl rfl
set_option maxHeartbeats 2000000 in
set_option maxRecDepth 100000 in
theorem c_X7_init (l : Launch) (g : Gx) (a : Nat) (sz : Nat) : Met l yX7_init (.code yX7_init cX7_init 1 none :: wsL_law) { frames := 1, cells := 3, slots := 31, locals := 12 } (PRo g [.ref a] [(a, oB 6 [vi 0, vi 0, .null, .null, .null, vi 0, vi 0, vi 0])] sz) (PV (S := Nat × Nat × Nat) g (fun u_ => True) (fun u_ => [(a, oB 6 [vi 4, vi 4, .ref u_.1, .ref u_.2.1, .ref u_.2.2, vi 0, vi 0, vi 99]), (u_.1, aI g 11 (fun _ => 0)), (u_.2.1, aI g 10 (fun _ => 0)), (u_.2.2, aI g 10 (fun _ => 0))]) [(a, oB 6 [vi 0, vi 0, .null, .null, .null, vi 0, vi 0, vi 0])] sz) 3 31 (va_A [(a, oB 6 [vi 0, vi 0, .null, .null, .null, vi 0, vi 0, vi 0])] sz) := by
  refine meetO (own := RX7) rfl (plainFor_of_name (by decide +kernel)) rfl (fun p_ e_ s_ m_ args_ below_ meth_ c_ C hnm hAO => ?_)
  refine r_at (ws' := [(a, oB 6 [vi 0, vi 0, .null, .null, .null, vi 0, vi 0, vi 0])]) (lv' := [(0, .ref a)]) rfl rfl ?_
  refine r_aload_n C dX7_init_0 0 rfl ?_
  refine r_objInit C (in_r4 (List.mem_of_getElem? (i := 0) rfl)) dX7_init_1 rfl ?_
  refine r_aload_n C dX7_init_4 0 rfl ?_
  refine r_iconst C dX7_init_5 ?_
  refine pf_X7_9 C (ws' := [(a, oB 6 [vi 4, vi 0, .null, .null, .null, vi 0, vi 0, vi 0])]) dX7_init_6 0 rfl (Nat.le_of_ble_eq_true rfl) rfl ?_
  refine r_aload_n C dX7_init_9 0 rfl ?_
  refine r_iconst C dX7_init_10 ?_
  refine pf_X7_15 C (ws' := [(a, oB 6 [vi 4, vi 4, .null, .null, .null, vi 0, vi 0, vi 0])]) dX7_init_11 0 rfl (Nat.le_of_ble_eq_true rfl) rfl ?_
  refine r_aload_n C dX7_init_14 0 rfl ?_
  refine r_bipush C dX7_init_15 rfl ?_
  refine r_newi C 11 (in_r4 (List.mem_of_getElem? (i := 3) rfl)) dX7_init_17 rfl rfl rfl (fun q_1 => ?_)
  refine r_at (ws' := [(a, oB 6 [vi 4, vi 4, .null, .null, .null, vi 0, vi 0, vi 0]), (q_1, aI g 11 (fun _ => 0))]) (lv' := [(0, .ref a)]) rfl rfl ?_
  refine pf_X7_18 C (ws' := [(a, oB 6 [vi 4, vi 4, .ref q_1, .null, .null, vi 0, vi 0, vi 0]), (q_1, aI g 11 (fun _ => 0))]) hnm dX7_init_19 0 rfl (Nat.le_of_ble_eq_true rfl) rfl ?_
  refine r_aload_n C dX7_init_22 0 rfl ?_
  refine r_bipush C dX7_init_23 rfl ?_
  refine r_newi C 10 (in_r4 (List.mem_of_getElem? (i := 3) rfl)) dX7_init_25 rfl rfl rfl (fun q_2 => ?_)
  refine r_at (ws' := [(a, oB 6 [vi 4, vi 4, .ref q_1, .null, .null, vi 0, vi 0, vi 0]), (q_1, aI g 11 (fun _ => 0)), (q_2, aI g 10 (fun _ => 0))]) (lv' := [(0, .ref a)]) rfl rfl ?_
  refine pf_X7_22 C (ws' := [(a, oB 6 [vi 4, vi 4, .ref q_1, .ref q_2, .null, vi 0, vi 0, vi 0]), (q_1, aI g 11 (fun _ => 0)), (q_2, aI g 10 (fun _ => 0))]) hnm dX7_init_27 0 rfl (Nat.le_of_ble_eq_true rfl) rfl ?_
  refine r_aload_n C dX7_init_30 0 rfl ?_
  refine r_bipush C dX7_init_31 rfl ?_
  refine r_newi C 10 (in_r4 (List.mem_of_getElem? (i := 3) rfl)) dX7_init_33 rfl rfl rfl (fun q_3 => ?_)
  refine r_at (ws' := [(a, oB 6 [vi 4, vi 4, .ref q_1, .ref q_2, .null, vi 0, vi 0, vi 0]), (q_1, aI g 11 (fun _ => 0)), (q_2, aI g 10 (fun _ => 0)), (q_3, aI g 10 (fun _ => 0))]) (lv' := [(0, .ref a)]) rfl rfl ?_
  refine pf_X7_25 C (ws' := [(a, oB 6 [vi 4, vi 4, .ref q_1, .ref q_2, .ref q_3, vi 0, vi 0, vi 0]), (q_1, aI g 11 (fun _ => 0)), (q_2, aI g 10 (fun _ => 0)), (q_3, aI g 10 (fun _ => 0))]) hnm dX7_init_35 0 rfl (Nat.le_of_ble_eq_true rfl) rfl ?_
  refine r_aload_n C dX7_init_38 0 rfl ?_
  refine r_iconst C dX7_init_39 ?_
  refine pf_X7_28 C (ws' := [(a, oB 6 [vi 4, vi 4, .ref q_1, .ref q_2, .ref q_3, vi 0, vi 0, vi 0]), (q_1, aI g 11 (fun _ => 0)), (q_2, aI g 10 (fun _ => 0)), (q_3, aI g 10 (fun _ => 0))]) dX7_init_40 0 rfl (Nat.le_of_ble_eq_true rfl) rfl ?_
  refine r_aload_n C dX7_init_43 0 rfl ?_
  refine r_iconst C dX7_init_44 ?_
  refine pf_X7_31 C (ws' := [(a, oB 6 [vi 4, vi 4, .ref q_1, .ref q_2, .ref q_3, vi 0, vi 0, vi 0]), (q_1, aI g 11 (fun _ => 0)), (q_2, aI g 10 (fun _ => 0)), (q_3, aI g 10 (fun _ => 0))]) dX7_init_45 0 rfl (Nat.le_of_ble_eq_true rfl) rfl ?_
  refine r_aload_n C dX7_init_48 0 rfl ?_
  refine r_bipush C dX7_init_49 rfl ?_
  refine pf_X7_34 C (ws' := [(a, oB 6 [vi 4, vi 4, .ref q_1, .ref q_2, .ref q_3, vi 0, vi 0, vi 99]), (q_1, aI g 11 (fun _ => 0)), (q_2, aI g 10 (fun _ => 0)), (q_3, aI g 10 (fun _ => 0))]) dX7_init_51 0 rfl (Nat.le_of_ble_eq_true rfl) rfl ?_
  exact e_vM C (q_1, q_2, q_3) dX7_init_54 (trivial) rfl rfl rfl
set_option maxHeartbeats 2000000 in
set_option maxRecDepth 100000 in
theorem c_X8_init (l : Launch) (g : Gx) (a : Nat) (sz : Nat) : Met l yX8_init (.code yX8_init cX8_init 1 none :: wsL_law) { frames := 1, cells := 1, slots := 200, locals := 12 } (PRo g [.ref a] [(a, oB 7 [.null, vi 0])] sz) (PV (S := Nat) g (fun u_ => True) (fun u_ => [(a, oB 7 [.ref u_, vi 0]), (u_, aC g 200 (fun _ => 0))]) [(a, oB 7 [.null, vi 0])] sz) 1 200 (va_A [(a, oB 7 [.null, vi 0])] sz) := by
  refine meetO (own := RX8) rfl (plainFor_of_name (by decide +kernel)) rfl (fun p_ e_ s_ m_ args_ below_ meth_ c_ C hnm hAO => ?_)
  refine r_at (ws' := [(a, oB 7 [.null, vi 0])]) (lv' := [(0, .ref a)]) rfl rfl ?_
  refine r_aload_n C dX8_init_0 0 rfl ?_
  refine r_objInit C (in_r3 (List.mem_of_getElem? (i := 11) rfl)) dX8_init_1 rfl ?_
  refine r_aload_n C dX8_init_4 0 rfl ?_
  refine r_sipush C dX8_init_5 rfl ?_
  refine r_newc C 200 (in_r3 (List.mem_of_getElem? (i := 12) rfl)) dX8_init_8 rfl rfl rfl (fun q_1 => ?_)
  refine r_at (ws' := [(a, oB 7 [.null, vi 0]), (q_1, aC g 200 (fun _ => 0))]) (lv' := [(0, .ref a)]) rfl rfl ?_
  refine pf_X8_9 C (ws' := [(a, oB 7 [.ref q_1, vi 0]), (q_1, aC g 200 (fun _ => 0))]) hnm dX8_init_10 0 rfl (Nat.le_of_ble_eq_true rfl) rfl ?_
  refine r_aload_n C dX8_init_13 0 rfl ?_
  refine r_iconst C dX8_init_14 ?_
  refine pf_X8_15 C (ws' := [(a, oB 7 [.ref q_1, vi 0]), (q_1, aC g 200 (fun _ => 0))]) dX8_init_15 0 rfl (Nat.le_of_ble_eq_true rfl) rfl ?_
  exact e_vM C q_1 dX8_init_18 (trivial) rfl rfl rfl
set_option maxHeartbeats 2000000 in
set_option maxRecDepth 100000 in
theorem c_X9_init (l : Launch) (g : Gx) (a : Nat) (sz : Nat) : Met l yX9_init (.code yX9_init cX9_init 1 none :: wsL_law) { frames := 1, cells := 2, slots := 20, locals := 12 } (PRo g [.ref a] [(a, oB 8 [.null, .null, vi 0, vi 0, vi 0, vi 0, vi 0])] sz) (PV (S := Nat × Nat) g (fun u_ => True) (fun u_ => [(a, oB 8 [.ref u_.1, .ref u_.2, vi 0, vi 0, vi 0, vi 0, vi 0]), (u_.1, aI g 10 (fun _ => 0)), (u_.2, aI g 10 (fun _ => 0))]) [(a, oB 8 [.null, .null, vi 0, vi 0, vi 0, vi 0, vi 0])] sz) 2 20 (va_A [(a, oB 8 [.null, .null, vi 0, vi 0, vi 0, vi 0, vi 0])] sz) := by
  refine meetO (own := RX9) rfl (plainFor_of_name (by decide +kernel)) rfl (fun p_ e_ s_ m_ args_ below_ meth_ c_ C hnm hAO => ?_)
  refine r_at (ws' := [(a, oB 8 [.null, .null, vi 0, vi 0, vi 0, vi 0, vi 0])]) (lv' := [(0, .ref a)]) rfl rfl ?_
  refine r_aload_n C dX9_init_0 0 rfl ?_
  refine r_objInit C (in_r6 (List.mem_of_getElem? (i := 0) rfl)) dX9_init_1 rfl ?_
  refine r_aload_n C dX9_init_4 0 rfl ?_
  refine r_bipush C dX9_init_5 rfl ?_
  refine r_newi C 10 (in_r4 (List.mem_of_getElem? (i := 3) rfl)) dX9_init_7 rfl rfl rfl (fun q_1 => ?_)
  refine r_at (ws' := [(a, oB 8 [.null, .null, vi 0, vi 0, vi 0, vi 0, vi 0]), (q_1, aI g 10 (fun _ => 0))]) (lv' := [(0, .ref a)]) rfl rfl ?_
  refine pf_X9_9 C (ws' := [(a, oB 8 [.ref q_1, .null, vi 0, vi 0, vi 0, vi 0, vi 0]), (q_1, aI g 10 (fun _ => 0))]) hnm dX9_init_9 0 rfl (Nat.le_of_ble_eq_true rfl) rfl ?_
  refine r_aload_n C dX9_init_12 0 rfl ?_
  refine r_bipush C dX9_init_13 rfl ?_
  refine r_newi C 10 (in_r4 (List.mem_of_getElem? (i := 3) rfl)) dX9_init_15 rfl rfl rfl (fun q_2 => ?_)
  refine r_at (ws' := [(a, oB 8 [.ref q_1, .null, vi 0, vi 0, vi 0, vi 0, vi 0]), (q_1, aI g 10 (fun _ => 0)), (q_2, aI g 10 (fun _ => 0))]) (lv' := [(0, .ref a)]) rfl rfl ?_
  refine pf_X9_15 C (ws' := [(a, oB 8 [.ref q_1, .ref q_2, vi 0, vi 0, vi 0, vi 0, vi 0]), (q_1, aI g 10 (fun _ => 0)), (q_2, aI g 10 (fun _ => 0))]) hnm dX9_init_17 0 rfl (Nat.le_of_ble_eq_true rfl) rfl ?_
  refine r_aload_n C dX9_init_20 0 rfl ?_
  refine r_iconst C dX9_init_21 ?_
  refine pf_X9_18 C (ws' := [(a, oB 8 [.ref q_1, .ref q_2, vi 0, vi 0, vi 0, vi 0, vi 0]), (q_1, aI g 10 (fun _ => 0)), (q_2, aI g 10 (fun _ => 0))]) dX9_init_22 0 rfl (Nat.le_of_ble_eq_true rfl) rfl ?_
  refine r_aload_n C dX9_init_25 0 rfl ?_
  refine r_iconst C dX9_init_26 ?_
  refine pf_X9_22 C (ws' := [(a, oB 8 [.ref q_1, .ref q_2, vi 0, vi 0, vi 0, vi 0, vi 0]), (q_1, aI g 10 (fun _ => 0)), (q_2, aI g 10 (fun _ => 0))]) dX9_init_27 0 rfl (Nat.le_of_ble_eq_true rfl) rfl ?_
  refine r_aload_n C dX9_init_30 0 rfl ?_
  refine r_iconst C dX9_init_31 ?_
  refine pf_X9_25 C (ws' := [(a, oB 8 [.ref q_1, .ref q_2, vi 0, vi 0, vi 0, vi 0, vi 0]), (q_1, aI g 10 (fun _ => 0)), (q_2, aI g 10 (fun _ => 0))]) dX9_init_32 0 rfl (Nat.le_of_ble_eq_true rfl) rfl ?_
  refine r_aload_n C dX9_init_35 0 rfl ?_
  refine r_iconst C dX9_init_36 ?_
  refine pf_X9_28 C (ws' := [(a, oB 8 [.ref q_1, .ref q_2, vi 0, vi 0, vi 0, vi 0, vi 0]), (q_1, aI g 10 (fun _ => 0)), (q_2, aI g 10 (fun _ => 0))]) dX9_init_37 0 rfl (Nat.le_of_ble_eq_true rfl) rfl ?_
  refine r_aload_n C dX9_init_40 0 rfl ?_
  refine r_iconst C dX9_init_41 ?_
  refine pf_X9_31 C (ws' := [(a, oB 8 [.ref q_1, .ref q_2, vi 0, vi 0, vi 0, vi 0, vi 0]), (q_1, aI g 10 (fun _ => 0)), (q_2, aI g 10 (fun _ => 0))]) dX9_init_42 0 rfl (Nat.le_of_ble_eq_true rfl) rfl ?_
  exact e_vM C (q_1, q_2) dX9_init_45 (trivial) rfl rfl rfl
set_option maxHeartbeats 2000000 in
set_option maxRecDepth 100000 in
theorem c_X10_init (l : Launch) (g : Gx) (a : Nat) (sz : Nat) : Met l yX10_init (.code yX10_init cX10_init 1 none :: wsL_law) { frames := 1, cells := 1, slots := 11, locals := 12 } (PRo g [.ref a] [(a, oB 9 [.null])] sz) (PV (S := Nat) g (fun u_ => True) (fun u_ => [(a, oB 9 [.ref u_]), (u_, aI g 11 (fun _ => 0))]) [(a, oB 9 [.null])] sz) 1 11 (va_A [(a, oB 9 [.null])] sz) := by
  refine meetO (own := RX10) rfl (plainFor_of_name (by decide +kernel)) rfl (fun p_ e_ s_ m_ args_ below_ meth_ c_ C hnm hAO => ?_)
  refine r_at (ws' := [(a, oB 9 [.null])]) (lv' := [(0, .ref a)]) rfl rfl ?_
  refine r_aload_n C dX10_init_0 0 rfl ?_
  refine r_objInit C (in_r6 (List.mem_of_getElem? (i := 17) rfl)) dX10_init_1 rfl ?_
  refine r_aload_n C dX10_init_4 0 rfl ?_
  refine r_bipush C dX10_init_5 rfl ?_
  refine r_newi C 11 (in_r4 (List.mem_of_getElem? (i := 3) rfl)) dX10_init_7 rfl rfl rfl (fun q_1 => ?_)
  refine r_at (ws' := [(a, oB 9 [.null]), (q_1, aI g 11 (fun _ => 0))]) (lv' := [(0, .ref a)]) rfl rfl ?_
  refine pf_X10_9 C (ws' := [(a, oB 9 [.ref q_1]), (q_1, aI g 11 (fun _ => 0))]) hnm dX10_init_9 0 rfl (Nat.le_of_ble_eq_true rfl) rfl ?_
  exact e_vM C q_1 dX10_init_12 (trivial) rfl rfl rfl
set_option maxHeartbeats 2000000 in
set_option maxRecDepth 100000 in
theorem c_X6_init (l : Launch) (g : Gx) (a : Nat) (sz : Nat) : Met l yX6_init (.code yX6_init cX6_init 1 none :: wsL_law) { frames := 2, cells := 4, slots := 39, locals := 32 } (PRo g [.ref a] [(a, oB 5 [.null, vi 0, vi 0])] sz) (PV (S := Nat × Nat × Nat × Nat) g (fun u_ => True) (fun u_ => [(a, oB 5 [.ref u_.1, vi 0, vi 0]), (u_.1, oB 6 [vi 4, vi 4, .ref u_.2.1, .ref u_.2.2.1, .ref u_.2.2.2, vi 0, vi 0, vi 99]), (u_.2.1, aI g 11 (fun _ => 0)), (u_.2.2.1, aI g 10 (fun _ => 0)), (u_.2.2.2, aI g 10 (fun _ => 0))]) [(a, oB 5 [.null, vi 0, vi 0])] sz) 4 39 (va_A [(a, oB 5 [.null, vi 0, vi 0])] sz) := by
  refine meetO (own := RX6) rfl (plainFor_of_name (by decide +kernel)) rfl (fun p_ e_ s_ m_ args_ below_ meth_ c_ C hnm hAO => ?_)
  refine r_at (ws' := [(a, oB 5 [.null, vi 0, vi 0])]) (lv' := [(0, .ref a)]) rfl rfl ?_
  refine r_aload_n C dX6_init_0 0 rfl ?_
  refine r_objInit C (in_r3 (List.mem_of_getElem? (i := 17) rfl)) dX6_init_1 rfl ?_
  refine r_aload_n C dX6_init_4 0 rfl ?_
  refine r_new C 6 [vi 0, vi 0, .null, .null, .null, vi 0, vi 0, vi 0] inlX7 tyX7 tyX7_ok rfl dfX7 (in_r3 (List.mem_of_getElem? (i := 18) rfl)) (in_r1 (List.mem_of_getElem? (i := 21) rfl)) (in_r1 (List.mem_of_getElem? (i := 22) rfl)) dX6_init_5 rfl (fun q_1 => ?_)
  refine r_at (ws' := [(a, oB 5 [.null, vi 0, vi 0]), (q_1, oB 6 [vi 0, vi 0, .null, .null, .null, vi 0, vi 0, vi 0])]) (lv' := [(0, .ref a)]) rfl rfl ?_
  refine r_dup C dX6_init_8 rfl ?_
  refine k_IN (host := RX11) C hAO ki_X6_11 (fun sz => c_X7_init l g q_1 sz) dX6_init_9 rfl rfl (ws0 := [(a, oB 5 [.null, vi 0, vi 0])]) rfl (fun u_ p_9 => ?_)
  obtain ⟨a1_9, a2_9, a3_9⟩ := u_
  refine r_at (ws' := [(a, oB 5 [.null, vi 0, vi 0]), (q_1, oB 6 [vi 4, vi 4, .ref a1_9, .ref a2_9, .ref a3_9, vi 0, vi 0, vi 99]), (a1_9, aI g 11 (fun _ => 0)), (a2_9, aI g 10 (fun _ => 0)), (a3_9, aI g 10 (fun _ => 0))]) (lv' := [(0, .ref a)]) rfl rfl ?_
  refine pf_X6_12 C (ws' := [(a, oB 5 [.ref q_1, vi 0, vi 0]), (q_1, oB 6 [vi 4, vi 4, .ref a1_9, .ref a2_9, .ref a3_9, vi 0, vi 0, vi 99]), (a1_9, aI g 11 (fun _ => 0)), (a2_9, aI g 10 (fun _ => 0)), (a3_9, aI g 10 (fun _ => 0))]) hnm dX6_init_12 0 rfl (Nat.le_of_ble_eq_true rfl) rfl ?_
  refine r_aload_n C dX6_init_15 0 rfl ?_
  refine r_iconst C dX6_init_16 ?_
  refine pf_X6_18 C (ws' := [(a, oB 5 [.ref q_1, vi 0, vi 0]), (q_1, oB 6 [vi 4, vi 4, .ref a1_9, .ref a2_9, .ref a3_9, vi 0, vi 0, vi 99]), (a1_9, aI g 11 (fun _ => 0)), (a2_9, aI g 10 (fun _ => 0)), (a3_9, aI g 10 (fun _ => 0))]) dX6_init_17 0 rfl (Nat.le_of_ble_eq_true rfl) (nz_n (by omega)) (nz_f (by omega)) rfl ?_
  refine r_aload_n C dX6_init_20 0 rfl ?_
  refine r_iconst C dX6_init_21 ?_
  refine pf_X6_22 C (ws' := [(a, oB 5 [.ref q_1, vi 0, vi 0]), (q_1, oB 6 [vi 4, vi 4, .ref a1_9, .ref a2_9, .ref a3_9, vi 0, vi 0, vi 99]), (a1_9, aI g 11 (fun _ => 0)), (a2_9, aI g 10 (fun _ => 0)), (a3_9, aI g 10 (fun _ => 0))]) dX6_init_22 0 rfl (Nat.le_of_ble_eq_true rfl) rfl ?_
  exact e_vM C (q_1, a1_9, a2_9, a3_9) dX6_init_25 (trivial) rfl rfl rfl
set_option maxHeartbeats 2000000 in
set_option maxRecDepth 100000 in
theorem c_X5_init (l : Launch) (g : Gx) (a : Nat) (sz : Nat) : Met l yX5_init (.code yX5_init cX5_init 1 none :: wsL_law) { frames := 2, cells := 8, slots := 293, locals := 32 } (PRo g [.ref a] [(a, oB 4 [.null, .null, .null, vi 0, .null, .null, .null, vi 0, vi 0])] sz) (PV (S := Nat × Nat × Nat × Nat × Nat × Nat × Nat × Nat) g (fun u_ => True) (fun u_ => [(a, oB 4 [.ref u_.1, .ref u_.2.2.2.1, .ref u_.2.2.2.2.1, vi 0, .ref u_.2.2.2.2.2.1, .ref u_.2.2.2.2.2.2.1, .ref u_.2.2.2.2.2.2.2, vi 0, vi 0]), (u_.1, oB 8 [.ref u_.2.1, .ref u_.2.2.1, vi 0, vi 0, vi 0, vi 0, vi 0]), (u_.2.1, aI g 10 (fun _ => 0)), (u_.2.2.1, aI g 10 (fun _ => 0)), (u_.2.2.2.1, oB 2 [vi 0, vi 0, vi 0, vi 0]), (u_.2.2.2.2.1, aI g 10 (fun _ => 0)), (u_.2.2.2.2.2.1, aI g 121 (fun _ => 0)), (u_.2.2.2.2.2.2.1, aZ g 121 (fun _ => 0)), (u_.2.2.2.2.2.2.2, aI g 10 (fun _ => 0))]) [(a, oB 4 [.null, .null, .null, vi 0, .null, .null, .null, vi 0, vi 0])] sz) 8 293 (va_A [(a, oB 4 [.null, .null, .null, vi 0, .null, .null, .null, vi 0, vi 0])] sz) := by
  refine meetO (own := RX5) rfl (plainFor_of_name (by decide +kernel)) rfl (fun p_ e_ s_ m_ args_ below_ meth_ c_ C hnm hAO => ?_)
  refine r_at (ws' := [(a, oB 4 [.null, .null, .null, vi 0, .null, .null, .null, vi 0, vi 0])]) (lv' := [(0, .ref a)]) rfl rfl ?_
  refine r_aload_n C dX5_init_0 0 rfl ?_
  refine r_objInit C (in_r5 (List.mem_of_getElem? (i := 9) rfl)) dX5_init_1 rfl ?_
  refine r_aload_n C dX5_init_4 0 rfl ?_
  refine r_new C 8 [.null, .null, vi 0, vi 0, vi 0, vi 0, vi 0] inlX9 tyX9 tyX9_ok rfl dfX9 (in_r5 (List.mem_of_getElem? (i := 10) rfl)) (in_r2 (List.mem_of_getElem? (i := 17) rfl)) (in_r2 (List.mem_of_getElem? (i := 18) rfl)) dX5_init_5 rfl (fun q_1 => ?_)
  refine r_at (ws' := [(a, oB 4 [.null, .null, .null, vi 0, .null, .null, .null, vi 0, vi 0]), (q_1, oB 8 [.null, .null, vi 0, vi 0, vi 0, vi 0, vi 0])]) (lv' := [(0, .ref a)]) rfl rfl ?_
  refine r_dup C dX5_init_8 rfl ?_
  refine k_IN (host := RX11) C hAO ki_X5_11 (fun sz => c_X9_init l g q_1 sz) dX5_init_9 rfl rfl (ws0 := [(a, oB 4 [.null, .null, .null, vi 0, .null, .null, .null, vi 0, vi 0])]) rfl (fun u_ p_9 => ?_)
  obtain ⟨a1_9, a2_9⟩ := u_
  refine r_at (ws' := [(a, oB 4 [.null, .null, .null, vi 0, .null, .null, .null, vi 0, vi 0]), (q_1, oB 8 [.ref a1_9, .ref a2_9, vi 0, vi 0, vi 0, vi 0, vi 0]), (a1_9, aI g 10 (fun _ => 0)), (a2_9, aI g 10 (fun _ => 0))]) (lv' := [(0, .ref a)]) rfl rfl ?_
  refine pf_X5_12 C (ws' := [(a, oB 4 [.ref q_1, .null, .null, vi 0, .null, .null, .null, vi 0, vi 0]), (q_1, oB 8 [.ref a1_9, .ref a2_9, vi 0, vi 0, vi 0, vi 0, vi 0]), (a1_9, aI g 10 (fun _ => 0)), (a2_9, aI g 10 (fun _ => 0))]) hnm dX5_init_12 0 rfl (Nat.le_of_ble_eq_true rfl) rfl ?_
  refine r_aload_n C dX5_init_15 0 rfl ?_
  refine r_new C 2 [vi 0, vi 0, vi 0, vi 0] inlX2 tyX2 tyX2_ok rfl dfX2 (in_r5 (List.mem_of_getElem? (i := 12) rfl)) (in_r2 (List.mem_of_getElem? (i := 21) rfl)) (in_r2 (List.mem_of_getElem? (i := 22) rfl)) dX5_init_16 rfl (fun q_2 => ?_)
  refine r_at (ws' := [(a, oB 4 [.ref q_1, .null, .null, vi 0, .null, .null, .null, vi 0, vi 0]), (q_1, oB 8 [.ref a1_9, .ref a2_9, vi 0, vi 0, vi 0, vi 0, vi 0]), (a1_9, aI g 10 (fun _ => 0)), (a2_9, aI g 10 (fun _ => 0)), (q_2, oB 2 [vi 0, vi 0, vi 0, vi 0])]) (lv' := [(0, .ref a)]) rfl rfl ?_
  refine r_dup C dX5_init_19 rfl ?_
  refine k_IN (host := RX11) C hAO ki_X5_20 (fun sz => c_X2_init l g q_2 sz) dX5_init_20 rfl rfl (ws0 := [(a, oB 4 [.ref q_1, .null, .null, vi 0, .null, .null, .null, vi 0, vi 0]), (q_1, oB 8 [.ref a1_9, .ref a2_9, vi 0, vi 0, vi 0, vi 0, vi 0]), (a1_9, aI g 10 (fun _ => 0)), (a2_9, aI g 10 (fun _ => 0))]) rfl (fun u_ p_20 => ?_)
  refine r_at (ws' := [(a, oB 4 [.ref q_1, .null, .null, vi 0, .null, .null, .null, vi 0, vi 0]), (q_1, oB 8 [.ref a1_9, .ref a2_9, vi 0, vi 0, vi 0, vi 0, vi 0]), (a1_9, aI g 10 (fun _ => 0)), (a2_9, aI g 10 (fun _ => 0)), (q_2, oB 2 [vi 0, vi 0, vi 0, vi 0])]) (lv' := [(0, .ref a)]) rfl rfl ?_
  refine pf_X5_21 C (ws' := [(a, oB 4 [.ref q_1, .ref q_2, .null, vi 0, .null, .null, .null, vi 0, vi 0]), (q_1, oB 8 [.ref a1_9, .ref a2_9, vi 0, vi 0, vi 0, vi 0, vi 0]), (a1_9, aI g 10 (fun _ => 0)), (a2_9, aI g 10 (fun _ => 0)), (q_2, oB 2 [vi 0, vi 0, vi 0, vi 0])]) hnm dX5_init_23 0 rfl (Nat.le_of_ble_eq_true rfl) rfl ?_
  refine r_aload_n C dX5_init_26 0 rfl ?_
  refine r_bipush C dX5_init_27 rfl ?_
  refine r_newi C 10 (in_r4 (List.mem_of_getElem? (i := 3) rfl)) dX5_init_29 rfl rfl rfl (fun q_3 => ?_)
  refine r_at (ws' := [(a, oB 4 [.ref q_1, .ref q_2, .null, vi 0, .null, .null, .null, vi 0, vi 0]), (q_1, oB 8 [.ref a1_9, .ref a2_9, vi 0, vi 0, vi 0, vi 0, vi 0]), (a1_9, aI g 10 (fun _ => 0)), (a2_9, aI g 10 (fun _ => 0)), (q_2, oB 2 [vi 0, vi 0, vi 0, vi 0]), (q_3, aI g 10 (fun _ => 0))]) (lv' := [(0, .ref a)]) rfl rfl ?_
  refine pf_X5_25 C (ws' := [(a, oB 4 [.ref q_1, .ref q_2, .ref q_3, vi 0, .null, .null, .null, vi 0, vi 0]), (q_1, oB 8 [.ref a1_9, .ref a2_9, vi 0, vi 0, vi 0, vi 0, vi 0]), (a1_9, aI g 10 (fun _ => 0)), (a2_9, aI g 10 (fun _ => 0)), (q_2, oB 2 [vi 0, vi 0, vi 0, vi 0]), (q_3, aI g 10 (fun _ => 0))]) hnm dX5_init_31 0 rfl (Nat.le_of_ble_eq_true rfl) rfl ?_
  refine r_aload_n C dX5_init_34 0 rfl ?_
  refine r_iconst C dX5_init_35 ?_
  refine pf_X5_29 C (ws' := [(a, oB 4 [.ref q_1, .ref q_2, .ref q_3, vi 0, .null, .null, .null, vi 0, vi 0]), (q_1, oB 8 [.ref a1_9, .ref a2_9, vi 0, vi 0, vi 0, vi 0, vi 0]), (a1_9, aI g 10 (fun _ => 0)), (a2_9, aI g 10 (fun _ => 0)), (q_2, oB 2 [vi 0, vi 0, vi 0, vi 0]), (q_3, aI g 10 (fun _ => 0))]) dX5_init_36 0 rfl (Nat.le_of_ble_eq_true rfl) rfl ?_
  refine r_aload_n C dX5_init_39 0 rfl ?_
  refine r_bipush C dX5_init_40 rfl ?_
  refine r_newi C 121 (in_r4 (List.mem_of_getElem? (i := 3) rfl)) dX5_init_42 rfl rfl rfl (fun q_4 => ?_)
  refine r_at (ws' := [(a, oB 4 [.ref q_1, .ref q_2, .ref q_3, vi 0, .null, .null, .null, vi 0, vi 0]), (q_1, oB 8 [.ref a1_9, .ref a2_9, vi 0, vi 0, vi 0, vi 0, vi 0]), (a1_9, aI g 10 (fun _ => 0)), (a2_9, aI g 10 (fun _ => 0)), (q_2, oB 2 [vi 0, vi 0, vi 0, vi 0]), (q_3, aI g 10 (fun _ => 0)), (q_4, aI g 121 (fun _ => 0))]) (lv' := [(0, .ref a)]) rfl rfl ?_
  refine pf_X5_35 C (ws' := [(a, oB 4 [.ref q_1, .ref q_2, .ref q_3, vi 0, .ref q_4, .null, .null, vi 0, vi 0]), (q_1, oB 8 [.ref a1_9, .ref a2_9, vi 0, vi 0, vi 0, vi 0, vi 0]), (a1_9, aI g 10 (fun _ => 0)), (a2_9, aI g 10 (fun _ => 0)), (q_2, oB 2 [vi 0, vi 0, vi 0, vi 0]), (q_3, aI g 10 (fun _ => 0)), (q_4, aI g 121 (fun _ => 0))]) hnm dX5_init_44 0 rfl (Nat.le_of_ble_eq_true rfl) rfl ?_
  refine r_aload_n C dX5_init_47 0 rfl ?_
  refine r_bipush C dX5_init_48 rfl ?_
  refine r_newz C 121 (in_r5 (List.mem_of_getElem? (i := 17) rfl)) dX5_init_50 rfl rfl rfl (fun q_5 => ?_)
  refine r_at (ws' := [(a, oB 4 [.ref q_1, .ref q_2, .ref q_3, vi 0, .ref q_4, .null, .null, vi 0, vi 0]), (q_1, oB 8 [.ref a1_9, .ref a2_9, vi 0, vi 0, vi 0, vi 0, vi 0]), (a1_9, aI g 10 (fun _ => 0)), (a2_9, aI g 10 (fun _ => 0)), (q_2, oB 2 [vi 0, vi 0, vi 0, vi 0]), (q_3, aI g 10 (fun _ => 0)), (q_4, aI g 121 (fun _ => 0)), (q_5, aZ g 121 (fun _ => 0))]) (lv' := [(0, .ref a)]) rfl rfl ?_
  refine pf_X5_38 C (ws' := [(a, oB 4 [.ref q_1, .ref q_2, .ref q_3, vi 0, .ref q_4, .ref q_5, .null, vi 0, vi 0]), (q_1, oB 8 [.ref a1_9, .ref a2_9, vi 0, vi 0, vi 0, vi 0, vi 0]), (a1_9, aI g 10 (fun _ => 0)), (a2_9, aI g 10 (fun _ => 0)), (q_2, oB 2 [vi 0, vi 0, vi 0, vi 0]), (q_3, aI g 10 (fun _ => 0)), (q_4, aI g 121 (fun _ => 0)), (q_5, aZ g 121 (fun _ => 0))]) hnm dX5_init_52 0 rfl (Nat.le_of_ble_eq_true rfl) rfl ?_
  refine r_aload_n C dX5_init_55 0 rfl ?_
  refine r_bipush C dX5_init_56 rfl ?_
  refine r_newi C 10 (in_r4 (List.mem_of_getElem? (i := 3) rfl)) dX5_init_58 rfl rfl rfl (fun q_6 => ?_)
  refine r_at (ws' := [(a, oB 4 [.ref q_1, .ref q_2, .ref q_3, vi 0, .ref q_4, .ref q_5, .null, vi 0, vi 0]), (q_1, oB 8 [.ref a1_9, .ref a2_9, vi 0, vi 0, vi 0, vi 0, vi 0]), (a1_9, aI g 10 (fun _ => 0)), (a2_9, aI g 10 (fun _ => 0)), (q_2, oB 2 [vi 0, vi 0, vi 0, vi 0]), (q_3, aI g 10 (fun _ => 0)), (q_4, aI g 121 (fun _ => 0)), (q_5, aZ g 121 (fun _ => 0)), (q_6, aI g 10 (fun _ => 0))]) (lv' := [(0, .ref a)]) rfl rfl ?_
  refine pf_X5_42 C (ws' := [(a, oB 4 [.ref q_1, .ref q_2, .ref q_3, vi 0, .ref q_4, .ref q_5, .ref q_6, vi 0, vi 0]), (q_1, oB 8 [.ref a1_9, .ref a2_9, vi 0, vi 0, vi 0, vi 0, vi 0]), (a1_9, aI g 10 (fun _ => 0)), (a2_9, aI g 10 (fun _ => 0)), (q_2, oB 2 [vi 0, vi 0, vi 0, vi 0]), (q_3, aI g 10 (fun _ => 0)), (q_4, aI g 121 (fun _ => 0)), (q_5, aZ g 121 (fun _ => 0)), (q_6, aI g 10 (fun _ => 0))]) hnm dX5_init_60 0 rfl (Nat.le_of_ble_eq_true rfl) rfl ?_
  refine r_aload_n C dX5_init_63 0 rfl ?_
  refine r_iconst C dX5_init_64 ?_
  refine pf_X5_45 C (ws' := [(a, oB 4 [.ref q_1, .ref q_2, .ref q_3, vi 0, .ref q_4, .ref q_5, .ref q_6, vi 0, vi 0]), (q_1, oB 8 [.ref a1_9, .ref a2_9, vi 0, vi 0, vi 0, vi 0, vi 0]), (a1_9, aI g 10 (fun _ => 0)), (a2_9, aI g 10 (fun _ => 0)), (q_2, oB 2 [vi 0, vi 0, vi 0, vi 0]), (q_3, aI g 10 (fun _ => 0)), (q_4, aI g 121 (fun _ => 0)), (q_5, aZ g 121 (fun _ => 0)), (q_6, aI g 10 (fun _ => 0))]) dX5_init_65 0 rfl (Nat.le_of_ble_eq_true rfl) rfl ?_
  refine r_aload_n C dX5_init_68 0 rfl ?_
  refine r_iconst C dX5_init_69 ?_
  refine pf_X5_48 C (ws' := [(a, oB 4 [.ref q_1, .ref q_2, .ref q_3, vi 0, .ref q_4, .ref q_5, .ref q_6, vi 0, vi 0]), (q_1, oB 8 [.ref a1_9, .ref a2_9, vi 0, vi 0, vi 0, vi 0, vi 0]), (a1_9, aI g 10 (fun _ => 0)), (a2_9, aI g 10 (fun _ => 0)), (q_2, oB 2 [vi 0, vi 0, vi 0, vi 0]), (q_3, aI g 10 (fun _ => 0)), (q_4, aI g 121 (fun _ => 0)), (q_5, aZ g 121 (fun _ => 0)), (q_6, aI g 10 (fun _ => 0))]) dX5_init_70 0 rfl (Nat.le_of_ble_eq_true rfl) rfl ?_
  exact e_vM C (q_1, a1_9, a2_9, q_2, q_3, q_4, q_5, q_6) dX5_init_73 (trivial) rfl rfl rfl
set_option maxHeartbeats 2000000 in
set_option maxRecDepth 100000 in
theorem c_X3_init (l : Launch) (g : Gx) (a : Nat) (sz : Nat) : Met l yX3_init (.code yX3_init cX3_init 2 none :: wsL_law) { frames := 2, cells := 26, slots := 246, locals := 32 } (PRo g [.ref a] [(a, oB 3 [.null, .null, vi 0, vi 0])] sz) (PV (S := Nat × Nat × Nat × Nat × Nat × Nat × Nat × Nat × Nat × Nat × Nat × Nat × Nat × Nat × Nat × Nat × Nat × Nat × Nat × Nat × Nat × Nat × Nat × Nat × Nat × Nat) g (fun u_ => True) (fun u_ => [(a, oB 3 [.ref u_.1, .ref u_.2.1, vi 0, vi 0]), (u_.1, aQ g 6 (q6 u_.2.2.1 u_.2.2.2.2.2.2.1 u_.2.2.2.2.2.2.2.2.2.2.1 u_.2.2.2.2.2.2.2.2.2.2.2.2.2.2.1 u_.2.2.2.2.2.2.2.2.2.2.2.2.2.2.2.2.2.2.1 u_.2.2.2.2.2.2.2.2.2.2.2.2.2.2.2.2.2.2.2.2.2.2.1)), (u_.2.1, aI g 6 (fun _ => 0)), (u_.2.2.1, oB 6 [vi 4, vi 4, .ref u_.2.2.2.1, .ref u_.2.2.2.2.1, .ref u_.2.2.2.2.2.1, vi 0, vi 0, vi 99]), (u_.2.2.2.1, aI g 11 (fun _ => 0)), (u_.2.2.2.2.1, aI g 10 (fun _ => 0)), (u_.2.2.2.2.2.1, aI g 10 (fun _ => 0)), (u_.2.2.2.2.2.2.1, oB 6 [vi 4, vi 4, .ref u_.2.2.2.2.2.2.2.1, .ref u_.2.2.2.2.2.2.2.2.1, .ref u_.2.2.2.2.2.2.2.2.2.1, vi 0, vi 0, vi 99]), (u_.2.2.2.2.2.2.2.1, aI g 11 (fun _ => 0)), (u_.2.2.2.2.2.2.2.2.1, aI g 10 (fun _ => 0)), (u_.2.2.2.2.2.2.2.2.2.1, aI g 10 (fun _ => 0)), (u_.2.2.2.2.2.2.2.2.2.2.1, oB 6 [vi 4, vi 4, .ref u_.2.2.2.2.2.2.2.2.2.2.2.1, .ref u_.2.2.2.2.2.2.2.2.2.2.2.2.1, .ref u_.2.2.2.2.2.2.2.2.2.2.2.2.2.1, vi 0, vi 0, vi 99]), (u_.2.2.2.2.2.2.2.2.2.2.2.1, aI g 11 (fun _ => 0)), (u_.2.2.2.2.2.2.2.2.2.2.2.2.1, aI g 10 (fun _ => 0)), (u_.2.2.2.2.2.2.2.2.2.2.2.2.2.1, aI g 10 (fun _ => 0)), (u_.2.2.2.2.2.2.2.2.2.2.2.2.2.2.1, oB 6 [vi 4, vi 4, .ref u_.2.2.2.2.2.2.2.2.2.2.2.2.2.2.2.1, .ref u_.2.2.2.2.2.2.2.2.2.2.2.2.2.2.2.2.1, .ref u_.2.2.2.2.2.2.2.2.2.2.2.2.2.2.2.2.2.1, vi 0, vi 0, vi 99]), (u_.2.2.2.2.2.2.2.2.2.2.2.2.2.2.2.1, aI g 11 (fun _ => 0)), (u_.2.2.2.2.2.2.2.2.2.2.2.2.2.2.2.2.1, aI g 10 (fun _ => 0)), (u_.2.2.2.2.2.2.2.2.2.2.2.2.2.2.2.2.2.1, aI g 10 (fun _ => 0)), (u_.2.2.2.2.2.2.2.2.2.2.2.2.2.2.2.2.2.2.1, oB 6 [vi 4, vi 4, .ref u_.2.2.2.2.2.2.2.2.2.2.2.2.2.2.2.2.2.2.2.1, .ref u_.2.2.2.2.2.2.2.2.2.2.2.2.2.2.2.2.2.2.2.2.1, .ref u_.2.2.2.2.2.2.2.2.2.2.2.2.2.2.2.2.2.2.2.2.2.1, vi 0, vi 0, vi 99]), (u_.2.2.2.2.2.2.2.2.2.2.2.2.2.2.2.2.2.2.2.1, aI g 11 (fun _ => 0)), (u_.2.2.2.2.2.2.2.2.2.2.2.2.2.2.2.2.2.2.2.2.1, aI g 10 (fun _ => 0)), (u_.2.2.2.2.2.2.2.2.2.2.2.2.2.2.2.2.2.2.2.2.2.1, aI g 10 (fun _ => 0)), (u_.2.2.2.2.2.2.2.2.2.2.2.2.2.2.2.2.2.2.2.2.2.2.1, oB 6 [vi 4, vi 4, .ref u_.2.2.2.2.2.2.2.2.2.2.2.2.2.2.2.2.2.2.2.2.2.2.2.1, .ref u_.2.2.2.2.2.2.2.2.2.2.2.2.2.2.2.2.2.2.2.2.2.2.2.2.1, .ref u_.2.2.2.2.2.2.2.2.2.2.2.2.2.2.2.2.2.2.2.2.2.2.2.2.2, vi 0, vi 0, vi 99]), (u_.2.2.2.2.2.2.2.2.2.2.2.2.2.2.2.2.2.2.2.2.2.2.2.1, aI g 11 (fun _ => 0)), (u_.2.2.2.2.2.2.2.2.2.2.2.2.2.2.2.2.2.2.2.2.2.2.2.2.1, aI g 10 (fun _ => 0)), (u_.2.2.2.2.2.2.2.2.2.2.2.2.2.2.2.2.2.2.2.2.2.2.2.2.2, aI g 10 (fun _ => 0))]) [(a, oB 3 [.null, .null, vi 0, vi 0])] sz) 26 246 (va_A [(a, oB 3 [.null, .null, vi 0, vi 0])] sz) := by
  refine meetO (own := RX3) rfl (plainFor_of_name (by decide +kernel)) rfl (fun p_ e_ s_ m_ args_ below_ meth_ c_ C hnm hAO => ?_)
  refine r_at (ws' := [(a, oB 3 [.null, .null, vi 0, vi 0])]) (lv' := [(0, .ref a)]) rfl rfl ?_
  refine r_aload_n C dX3_init_0 0 rfl ?_
  refine r_objInit C (in_r4 (List.mem_of_getElem? (i := 13) rfl)) dX3_init_1 rfl ?_
  refine r_aload_n C dX3_init_4 0 rfl ?_
  refine r_bipush C dX3_init_5 rfl ?_
  refine r_newq C 6 hAO (in_r4 (List.mem_of_getElem? (i := 14) rfl)) dX3_init_7 rfl rfl rfl (fun q_1 => ?_)
  refine r_at (ws' := [(a, oB 3 [.null, .null, vi 0, vi 0]), (q_1, aQ g 6 (fun _ => none))]) (lv' := [(0, .ref a)]) rfl rfl ?_
  refine pf_X3_11 C (ws' := [(a, oB 3 [.ref q_1, .null, vi 0, vi 0]), (q_1, aQ g 6 (fun _ => none))]) hnm dX3_init_10 0 rfl (Nat.le_of_ble_eq_true rfl) rfl ?_
  refine r_aload_n C dX3_init_13 0 rfl ?_
  refine r_bipush C dX3_init_14 rfl ?_
  refine r_newi C 6 (in_r4 (List.mem_of_getElem? (i := 3) rfl)) dX3_init_16 rfl rfl rfl (fun q_2 => ?_)
  refine r_at (ws' := [(a, oB 3 [.ref q_1, .null, vi 0, vi 0]), (q_1, aQ g 6 (fun _ => none)), (q_2, aI g 6 (fun _ => 0))]) (lv' := [(0, .ref a)]) rfl rfl ?_
  refine pf_X3_17 C (ws' := [(a, oB 3 [.ref q_1, .ref q_2, vi 0, vi 0]), (q_1, aQ g 6 (fun _ => none)), (q_2, aI g 6 (fun _ => 0))]) hnm dX3_init_18 0 rfl (Nat.le_of_ble_eq_true rfl) rfl ?_
  refine r_aload_n C dX3_init_21 0 rfl ?_
  refine r_iconst C dX3_init_22 ?_
  refine pf_X3_21 C (ws' := [(a, oB 3 [.ref q_1, .ref q_2, vi 0, vi 0]), (q_1, aQ g 6 (fun _ => none)), (q_2, aI g 6 (fun _ => 0))]) dX3_init_23 0 rfl (Nat.le_of_ble_eq_true rfl) rfl ?_
  refine r_aload_n C dX3_init_26 0 rfl ?_
  refine r_iconst C dX3_init_27 ?_
  refine pf_X3_25 C (ws' := [(a, oB 3 [.ref q_1, .ref q_2, vi 0, vi 0]), (q_1, aQ g 6 (fun _ => none)), (q_2, aI g 6 (fun _ => 0))]) dX3_init_28 0 rfl (Nat.le_of_ble_eq_true rfl) rfl ?_
  refine r_iconst C dX3_init_31 ?_
  refine r_istore_n C (lv' := [(1, vi 0), (0, .ref a)]) dX3_init_32 rfl rfl ?_
  refine r_iload_n C dX3_init_33 0 rfl ?_
  refine r_bipush C dX3_init_34 rfl ?_
  refine r_icmp_ge C 58 dX3_init_36 rfl (by omega) (fun c_3 => ?_) (fun c_3 => ?_)
  · exact absurd c_3 (by decide)
  refine r_aload_n C dX3_init_39 1 rfl ?_
  refine gf_X3_11 C dX3_init_40 0 rfl rfl ?_
  refine r_iload_n C dX3_init_43 0 rfl ?_
  refine r_new C 6 [vi 0, vi 0, .null, .null, .null, vi 0, vi 0, vi 0] inlX7 tyX7 tyX7_ok rfl dfX7 (in_r4 (List.mem_of_getElem? (i := 14) rfl)) (in_r1 (List.mem_of_getElem? (i := 21) rfl)) (in_r1 (List.mem_of_getElem? (i := 22) rfl)) dX3_init_44 rfl (fun g0 => ?_)
  refine r_at (ws' := [(a, oB 3 [.ref q_1, .ref q_2, vi 0, vi 0]), (q_1, aQ g 6 (fun _ => none)), (q_2, aI g 6 (fun _ => 0)), (g0, oB 6 [vi 0, vi 0, .null, .null, .null, vi 0, vi 0, vi 0])]) (lv' := [(1, vi 0), (0, .ref a)]) rfl rfl ?_
  refine r_dup C dX3_init_47 rfl ?_
  refine k_IN (host := RX11) C hAO ki_X3_28 (fun sz => c_X7_init l g g0 sz) dX3_init_48 rfl rfl (ws0 := [(a, oB 3 [.ref q_1, .ref q_2, vi 0, vi 0]), (q_1, aQ g 6 (fun _ => none)), (q_2, aI g 6 (fun _ => 0))]) rfl (fun u_ p_4 => ?_)
  obtain ⟨g0r, g0x, g0y⟩ := u_
  refine r_at (ws' := [(a, oB 3 [.ref q_1, .ref q_2, vi 0, vi 0]), (q_1, aQ g 6 (fun _ => none)), (q_2, aI g 6 (fun _ => 0)), (g0, oB 6 [vi 4, vi 4, .ref g0r, .ref g0x, .ref g0y, vi 0, vi 0, vi 99]), (g0r, aI g 11 (fun _ => 0)), (g0x, aI g 10 (fun _ => 0)), (g0y, aI g 10 (fun _ => 0))]) (lv' := [(1, vi 0), (0, .ref a)]) rfl rfl ?_
  refine r_aastore C (ws' := [(a, oB 3 [.ref q_1, .ref q_2, vi 0, vi 0]), (q_1, aQ g 6 (va_up (fun _ => none) (zI 0).toNatClampNeg (some g0))), (q_2, aI g 6 (fun _ => 0)), (g0, oB 6 [vi 4, vi 4, .ref g0r, .ref g0x, .ref g0y, vi 0, vi 0, vi 99]), (g0r, aI g 11 (fun _ => 0)), (g0x, aI g 10 (fun _ => 0)), (g0y, aI g 10 (fun _ => 0))]) dX3_init_51 1 3 rfl rfl rfl (by omega) rfl ?_
  refine r_iinc C (lv' := [(1, vi (0 + 1)), (0, .ref a)]) dX3_init_52 0 rfl rfl rfl ?_
  refine r_at (ws' := [(a, oB 3 [.ref q_1, .ref q_2, vi 0, vi 0]), (q_1, aQ g 6 (va_up (fun _ => none) (zI 0).toNatClampNeg (some g0))), (q_2, aI g 6 (fun _ => 0)), (g0, oB 6 [vi 4, vi 4, .ref g0r, .ref g0x, .ref g0y, vi 0, vi 0, vi 99]), (g0r, aI g 11 (fun _ => 0)), (g0x, aI g 10 (fun _ => 0)), (g0y, aI g 10 (fun _ => 0))]) (lv' := [(1, vi 1), (0, .ref a)]) rfl rfl ?_
  refine r_goto C 33 dX3_init_55 rfl ?_
  refine r_iload_n C dX3_init_33 0 rfl ?_
  refine r_bipush C dX3_init_34 rfl ?_
  refine r_icmp_ge C 58 dX3_init_36 rfl (by omega) (fun c_5 => ?_) (fun c_5 => ?_)
  · exact absurd c_5 (by decide)
  refine r_aload_n C dX3_init_39 1 rfl ?_
  refine gf_X3_11 C dX3_init_40 0 rfl rfl ?_
  refine r_iload_n C dX3_init_43 0 rfl ?_
  refine r_new C 6 [vi 0, vi 0, .null, .null, .null, vi 0, vi 0, vi 0] inlX7 tyX7 tyX7_ok rfl dfX7 (in_r4 (List.mem_of_getElem? (i := 14) rfl)) (in_r1 (List.mem_of_getElem? (i := 21) rfl)) (in_r1 (List.mem_of_getElem? (i := 22) rfl)) dX3_init_44 rfl (fun g1 => ?_)
  refine r_at (ws' := [(a, oB 3 [.ref q_1, .ref q_2, vi 0, vi 0]), (q_1, aQ g 6 (va_up (fun _ => none) (zI 0).toNatClampNeg (some g0))), (q_2, aI g 6 (fun _ => 0)), (g0, oB 6 [vi 4, vi 4, .ref g0r, .ref g0x, .ref g0y, vi 0, vi 0, vi 99]), (g0r, aI g 11 (fun _ => 0)), (g0x, aI g 10 (fun _ => 0)), (g0y, aI g 10 (fun _ => 0)), (g1, oB 6 [vi 0, vi 0, .null, .null, .null, vi 0, vi 0, vi 0])]) (lv' := [(1, vi 1), (0, .ref a)]) rfl rfl ?_
  refine r_dup C dX3_init_47 rfl ?_
  refine k_IN (host := RX11) C hAO ki_X3_28 (fun sz => c_X7_init l g g1 sz) dX3_init_48 rfl rfl (ws0 := [(a, oB 3 [.ref q_1, .ref q_2, vi 0, vi 0]), (q_1, aQ g 6 (va_up (fun _ => none) (zI 0).toNatClampNeg (some g0))), (q_2, aI g 6 (fun _ => 0)), (g0, oB 6 [vi 4, vi 4, .ref g0r, .ref g0x, .ref g0y, vi 0, vi 0, vi 99]), (g0r, aI g 11 (fun _ => 0)), (g0x, aI g 10 (fun _ => 0)), (g0y, aI g 10 (fun _ => 0))]) rfl (fun u_ p_6 => ?_)
  obtain ⟨g1r, g1x, g1y⟩ := u_
  refine r_at (ws' := [(a, oB 3 [.ref q_1, .ref q_2, vi 0, vi 0]), (q_1, aQ g 6 (va_up (fun _ => none) (zI 0).toNatClampNeg (some g0))), (q_2, aI g 6 (fun _ => 0)), (g0, oB 6 [vi 4, vi 4, .ref g0r, .ref g0x, .ref g0y, vi 0, vi 0, vi 99]), (g0r, aI g 11 (fun _ => 0)), (g0x, aI g 10 (fun _ => 0)), (g0y, aI g 10 (fun _ => 0)), (g1, oB 6 [vi 4, vi 4, .ref g1r, .ref g1x, .ref g1y, vi 0, vi 0, vi 99]), (g1r, aI g 11 (fun _ => 0)), (g1x, aI g 10 (fun _ => 0)), (g1y, aI g 10 (fun _ => 0))]) (lv' := [(1, vi 1), (0, .ref a)]) rfl rfl ?_
  refine r_aastore C (ws' := [(a, oB 3 [.ref q_1, .ref q_2, vi 0, vi 0]), (q_1, aQ g 6 (va_up (va_up (fun _ => none) (zI 0).toNatClampNeg (some g0)) (zI 1).toNatClampNeg (some g1))), (q_2, aI g 6 (fun _ => 0)), (g0, oB 6 [vi 4, vi 4, .ref g0r, .ref g0x, .ref g0y, vi 0, vi 0, vi 99]), (g0r, aI g 11 (fun _ => 0)), (g0x, aI g 10 (fun _ => 0)), (g0y, aI g 10 (fun _ => 0)), (g1, oB 6 [vi 4, vi 4, .ref g1r, .ref g1x, .ref g1y, vi 0, vi 0, vi 99]), (g1r, aI g 11 (fun _ => 0)), (g1x, aI g 10 (fun _ => 0)), (g1y, aI g 10 (fun _ => 0))]) dX3_init_51 1 7 rfl rfl rfl (by omega) rfl ?_
  refine r_iinc C (lv' := [(1, vi (1 + 1)), (0, .ref a)]) dX3_init_52 0 rfl rfl rfl ?_
  refine r_at (ws' := [(a, oB 3 [.ref q_1, .ref q_2, vi 0, vi 0]), (q_1, aQ g 6 (va_up (va_up (fun _ => none) (zI 0).toNatClampNeg (some g0)) (zI 1).toNatClampNeg (some g1))), (q_2, aI g 6 (fun _ => 0)), (g0, oB 6 [vi 4, vi 4, .ref g0r, .ref g0x, .ref g0y, vi 0, vi 0, vi 99]), (g0r, aI g 11 (fun _ => 0)), (g0x, aI g 10 (fun _ => 0)), (g0y, aI g 10 (fun _ => 0)), (g1, oB 6 [vi 4, vi 4, .ref g1r, .ref g1x, .ref g1y, vi 0, vi 0, vi 99]), (g1r, aI g 11 (fun _ => 0)), (g1x, aI g 10 (fun _ => 0)), (g1y, aI g 10 (fun _ => 0))]) (lv' := [(1, vi 2), (0, .ref a)]) rfl rfl ?_
  refine r_goto C 33 dX3_init_55 rfl ?_
  refine r_iload_n C dX3_init_33 0 rfl ?_
  refine r_bipush C dX3_init_34 rfl ?_
  refine r_icmp_ge C 58 dX3_init_36 rfl (by omega) (fun c_7 => ?_) (fun c_7 => ?_)
  · exact absurd c_7 (by decide)
  refine r_aload_n C dX3_init_39 1 rfl ?_
  refine gf_X3_11 C dX3_init_40 0 rfl rfl ?_
  refine r_iload_n C dX3_init_43 0 rfl ?_
  refine r_new C 6 [vi 0, vi 0, .null, .null, .null, vi 0, vi 0, vi 0] inlX7 tyX7 tyX7_ok rfl dfX7 (in_r4 (List.mem_of_getElem? (i := 14) rfl)) (in_r1 (List.mem_of_getElem? (i := 21) rfl)) (in_r1 (List.mem_of_getElem? (i := 22) rfl)) dX3_init_44 rfl (fun g2 => ?_)
  refine r_at (ws' := [(a, oB 3 [.ref q_1, .ref q_2, vi 0, vi 0]), (q_1, aQ g 6 (va_up (va_up (fun _ => none) (zI 0).toNatClampNeg (some g0)) (zI 1).toNatClampNeg (some g1))), (q_2, aI g 6 (fun _ => 0)), (g0, oB 6 [vi 4, vi 4, .ref g0r, .ref g0x, .ref g0y, vi 0, vi 0, vi 99]), (g0r, aI g 11 (fun _ => 0)), (g0x, aI g 10 (fun _ => 0)), (g0y, aI g 10 (fun _ => 0)), (g1, oB 6 [vi 4, vi 4, .ref g1r, .ref g1x, .ref g1y, vi 0, vi 0, vi 99]), (g1r, aI g 11 (fun _ => 0)), (g1x, aI g 10 (fun _ => 0)), (g1y, aI g 10 (fun _ => 0)), (g2, oB 6 [vi 0, vi 0, .null, .null, .null, vi 0, vi 0, vi 0])]) (lv' := [(1, vi 2), (0, .ref a)]) rfl rfl ?_
  refine r_dup C dX3_init_47 rfl ?_
  refine k_IN (host := RX11) C hAO ki_X3_28 (fun sz => c_X7_init l g g2 sz) dX3_init_48 rfl rfl (ws0 := [(a, oB 3 [.ref q_1, .ref q_2, vi 0, vi 0]), (q_1, aQ g 6 (va_up (va_up (fun _ => none) (zI 0).toNatClampNeg (some g0)) (zI 1).toNatClampNeg (some g1))), (q_2, aI g 6 (fun _ => 0)), (g0, oB 6 [vi 4, vi 4, .ref g0r, .ref g0x, .ref g0y, vi 0, vi 0, vi 99]), (g0r, aI g 11 (fun _ => 0)), (g0x, aI g 10 (fun _ => 0)), (g0y, aI g 10 (fun _ => 0)), (g1, oB 6 [vi 4, vi 4, .ref g1r, .ref g1x, .ref g1y, vi 0, vi 0, vi 99]), (g1r, aI g 11 (fun _ => 0)), (g1x, aI g 10 (fun _ => 0)), (g1y, aI g 10 (fun _ => 0))]) rfl (fun u_ p_8 => ?_)
  obtain ⟨g2r, g2x, g2y⟩ := u_
  refine r_at (ws' := [(a, oB 3 [.ref q_1, .ref q_2, vi 0, vi 0]), (q_1, aQ g 6 (va_up (va_up (fun _ => none) (zI 0).toNatClampNeg (some g0)) (zI 1).toNatClampNeg (some g1))), (q_2, aI g 6 (fun _ => 0)), (g0, oB 6 [vi 4, vi 4, .ref g0r, .ref g0x, .ref g0y, vi 0, vi 0, vi 99]), (g0r, aI g 11 (fun _ => 0)), (g0x, aI g 10 (fun _ => 0)), (g0y, aI g 10 (fun _ => 0)), (g1, oB 6 [vi 4, vi 4, .ref g1r, .ref g1x, .ref g1y, vi 0, vi 0, vi 99]), (g1r, aI g 11 (fun _ => 0)), (g1x, aI g 10 (fun _ => 0)), (g1y, aI g 10 (fun _ => 0)), (g2, oB 6 [vi 4, vi 4, .ref g2r, .ref g2x, .ref g2y, vi 0, vi 0, vi 99]), (g2r, aI g 11 (fun _ => 0)), (g2x, aI g 10 (fun _ => 0)), (g2y, aI g 10 (fun _ => 0))]) (lv' := [(1, vi 2), (0, .ref a)]) rfl rfl ?_
  refine r_aastore C (ws' := [(a, oB 3 [.ref q_1, .ref q_2, vi 0, vi 0]), (q_1, aQ g 6 (va_up (va_up (va_up (fun _ => none) (zI 0).toNatClampNeg (some g0)) (zI 1).toNatClampNeg (some g1)) (zI 2).toNatClampNeg (some g2))), (q_2, aI g 6 (fun _ => 0)), (g0, oB 6 [vi 4, vi 4, .ref g0r, .ref g0x, .ref g0y, vi 0, vi 0, vi 99]), (g0r, aI g 11 (fun _ => 0)), (g0x, aI g 10 (fun _ => 0)), (g0y, aI g 10 (fun _ => 0)), (g1, oB 6 [vi 4, vi 4, .ref g1r, .ref g1x, .ref g1y, vi 0, vi 0, vi 99]), (g1r, aI g 11 (fun _ => 0)), (g1x, aI g 10 (fun _ => 0)), (g1y, aI g 10 (fun _ => 0)), (g2, oB 6 [vi 4, vi 4, .ref g2r, .ref g2x, .ref g2y, vi 0, vi 0, vi 99]), (g2r, aI g 11 (fun _ => 0)), (g2x, aI g 10 (fun _ => 0)), (g2y, aI g 10 (fun _ => 0))]) dX3_init_51 1 11 rfl rfl rfl (by omega) rfl ?_
  refine r_iinc C (lv' := [(1, vi (2 + 1)), (0, .ref a)]) dX3_init_52 0 rfl rfl rfl ?_
  refine r_at (ws' := [(a, oB 3 [.ref q_1, .ref q_2, vi 0, vi 0]), (q_1, aQ g 6 (va_up (va_up (va_up (fun _ => none) (zI 0).toNatClampNeg (some g0)) (zI 1).toNatClampNeg (some g1)) (zI 2).toNatClampNeg (some g2))), (q_2, aI g 6 (fun _ => 0)), (g0, oB 6 [vi 4, vi 4, .ref g0r, .ref g0x, .ref g0y, vi 0, vi 0, vi 99]), (g0r, aI g 11 (fun _ => 0)), (g0x, aI g 10 (fun _ => 0)), (g0y, aI g 10 (fun _ => 0)), (g1, oB 6 [vi 4, vi 4, .ref g1r, .ref g1x, .ref g1y, vi 0, vi 0, vi 99]), (g1r, aI g 11 (fun _ => 0)), (g1x, aI g 10 (fun _ => 0)), (g1y, aI g 10 (fun _ => 0)), (g2, oB 6 [vi 4, vi 4, .ref g2r, .ref g2x, .ref g2y, vi 0, vi 0, vi 99]), (g2r, aI g 11 (fun _ => 0)), (g2x, aI g 10 (fun _ => 0)), (g2y, aI g 10 (fun _ => 0))]) (lv' := [(1, vi 3), (0, .ref a)]) rfl rfl ?_
  refine r_goto C 33 dX3_init_55 rfl ?_
  refine r_iload_n C dX3_init_33 0 rfl ?_
  refine r_bipush C dX3_init_34 rfl ?_
  refine r_icmp_ge C 58 dX3_init_36 rfl (by omega) (fun c_9 => ?_) (fun c_9 => ?_)
  · exact absurd c_9 (by decide)
  refine r_aload_n C dX3_init_39 1 rfl ?_
  refine gf_X3_11 C dX3_init_40 0 rfl rfl ?_
  refine r_iload_n C dX3_init_43 0 rfl ?_
  refine r_new C 6 [vi 0, vi 0, .null, .null, .null, vi 0, vi 0, vi 0] inlX7 tyX7 tyX7_ok rfl dfX7 (in_r4 (List.mem_of_getElem? (i := 14) rfl)) (in_r1 (List.mem_of_getElem? (i := 21) rfl)) (in_r1 (List.mem_of_getElem? (i := 22) rfl)) dX3_init_44 rfl (fun g3 => ?_)
  refine r_at (ws' := [(a, oB 3 [.ref q_1, .ref q_2, vi 0, vi 0]), (q_1, aQ g 6 (va_up (va_up (va_up (fun _ => none) (zI 0).toNatClampNeg (some g0)) (zI 1).toNatClampNeg (some g1)) (zI 2).toNatClampNeg (some g2))), (q_2, aI g 6 (fun _ => 0)), (g0, oB 6 [vi 4, vi 4, .ref g0r, .ref g0x, .ref g0y, vi 0, vi 0, vi 99]), (g0r, aI g 11 (fun _ => 0)), (g0x, aI g 10 (fun _ => 0)), (g0y, aI g 10 (fun _ => 0)), (g1, oB 6 [vi 4, vi 4, .ref g1r, .ref g1x, .ref g1y, vi 0, vi 0, vi 99]), (g1r, aI g 11 (fun _ => 0)), (g1x, aI g 10 (fun _ => 0)), (g1y, aI g 10 (fun _ => 0)), (g2, oB 6 [vi 4, vi 4, .ref g2r, .ref g2x, .ref g2y, vi 0, vi 0, vi 99]), (g2r, aI g 11 (fun _ => 0)), (g2x, aI g 10 (fun _ => 0)), (g2y, aI g 10 (fun _ => 0)), (g3, oB 6 [vi 0, vi 0, .null, .null, .null, vi 0, vi 0, vi 0])]) (lv' := [(1, vi 3), (0, .ref a)]) rfl rfl ?_
  refine r_dup C dX3_init_47 rfl ?_
  refine k_IN (host := RX11) C hAO ki_X3_28 (fun sz => c_X7_init l g g3 sz) dX3_init_48 rfl rfl (ws0 := [(a, oB 3 [.ref q_1, .ref q_2, vi 0, vi 0]), (q_1, aQ g 6 (va_up (va_up (va_up (fun _ => none) (zI 0).toNatClampNeg (some g0)) (zI 1).toNatClampNeg (some g1)) (zI 2).toNatClampNeg (some g2))), (q_2, aI g 6 (fun _ => 0)), (g0, oB 6 [vi 4, vi 4, .ref g0r, .ref g0x, .ref g0y, vi 0, vi 0, vi 99]), (g0r, aI g 11 (fun _ => 0)), (g0x, aI g 10 (fun _ => 0)), (g0y, aI g 10 (fun _ => 0)), (g1, oB 6 [vi 4, vi 4, .ref g1r, .ref g1x, .ref g1y, vi 0, vi 0, vi 99]), (g1r, aI g 11 (fun _ => 0)), (g1x, aI g 10 (fun _ => 0)), (g1y, aI g 10 (fun _ => 0)), (g2, oB 6 [vi 4, vi 4, .ref g2r, .ref g2x, .ref g2y, vi 0, vi 0, vi 99]), (g2r, aI g 11 (fun _ => 0)), (g2x, aI g 10 (fun _ => 0)), (g2y, aI g 10 (fun _ => 0))]) rfl (fun u_ p_10 => ?_)
  obtain ⟨g3r, g3x, g3y⟩ := u_
  refine r_at (ws' := [(a, oB 3 [.ref q_1, .ref q_2, vi 0, vi 0]), (q_1, aQ g 6 (va_up (va_up (va_up (fun _ => none) (zI 0).toNatClampNeg (some g0)) (zI 1).toNatClampNeg (some g1)) (zI 2).toNatClampNeg (some g2))), (q_2, aI g 6 (fun _ => 0)), (g0, oB 6 [vi 4, vi 4, .ref g0r, .ref g0x, .ref g0y, vi 0, vi 0, vi 99]), (g0r, aI g 11 (fun _ => 0)), (g0x, aI g 10 (fun _ => 0)), (g0y, aI g 10 (fun _ => 0)), (g1, oB 6 [vi 4, vi 4, .ref g1r, .ref g1x, .ref g1y, vi 0, vi 0, vi 99]), (g1r, aI g 11 (fun _ => 0)), (g1x, aI g 10 (fun _ => 0)), (g1y, aI g 10 (fun _ => 0)), (g2, oB 6 [vi 4, vi 4, .ref g2r, .ref g2x, .ref g2y, vi 0, vi 0, vi 99]), (g2r, aI g 11 (fun _ => 0)), (g2x, aI g 10 (fun _ => 0)), (g2y, aI g 10 (fun _ => 0)), (g3, oB 6 [vi 4, vi 4, .ref g3r, .ref g3x, .ref g3y, vi 0, vi 0, vi 99]), (g3r, aI g 11 (fun _ => 0)), (g3x, aI g 10 (fun _ => 0)), (g3y, aI g 10 (fun _ => 0))]) (lv' := [(1, vi 3), (0, .ref a)]) rfl rfl ?_
  refine r_aastore C (ws' := [(a, oB 3 [.ref q_1, .ref q_2, vi 0, vi 0]), (q_1, aQ g 6 (va_up (va_up (va_up (va_up (fun _ => none) (zI 0).toNatClampNeg (some g0)) (zI 1).toNatClampNeg (some g1)) (zI 2).toNatClampNeg (some g2)) (zI 3).toNatClampNeg (some g3))), (q_2, aI g 6 (fun _ => 0)), (g0, oB 6 [vi 4, vi 4, .ref g0r, .ref g0x, .ref g0y, vi 0, vi 0, vi 99]), (g0r, aI g 11 (fun _ => 0)), (g0x, aI g 10 (fun _ => 0)), (g0y, aI g 10 (fun _ => 0)), (g1, oB 6 [vi 4, vi 4, .ref g1r, .ref g1x, .ref g1y, vi 0, vi 0, vi 99]), (g1r, aI g 11 (fun _ => 0)), (g1x, aI g 10 (fun _ => 0)), (g1y, aI g 10 (fun _ => 0)), (g2, oB 6 [vi 4, vi 4, .ref g2r, .ref g2x, .ref g2y, vi 0, vi 0, vi 99]), (g2r, aI g 11 (fun _ => 0)), (g2x, aI g 10 (fun _ => 0)), (g2y, aI g 10 (fun _ => 0)), (g3, oB 6 [vi 4, vi 4, .ref g3r, .ref g3x, .ref g3y, vi 0, vi 0, vi 99]), (g3r, aI g 11 (fun _ => 0)), (g3x, aI g 10 (fun _ => 0)), (g3y, aI g 10 (fun _ => 0))]) dX3_init_51 1 15 rfl rfl rfl (by omega) rfl ?_
  refine r_iinc C (lv' := [(1, vi (3 + 1)), (0, .ref a)]) dX3_init_52 0 rfl rfl rfl ?_
  refine r_at (ws' := [(a, oB 3 [.ref q_1, .ref q_2, vi 0, vi 0]), (q_1, aQ g 6 (va_up (va_up (va_up (va_up (fun _ => none) (zI 0).toNatClampNeg (some g0)) (zI 1).toNatClampNeg (some g1)) (zI 2).toNatClampNeg (some g2)) (zI 3).toNatClampNeg (some g3))), (q_2, aI g 6 (fun _ => 0)), (g0, oB 6 [vi 4, vi 4, .ref g0r, .ref g0x, .ref g0y, vi 0, vi 0, vi 99]), (g0r, aI g 11 (fun _ => 0)), (g0x, aI g 10 (fun _ => 0)), (g0y, aI g 10 (fun _ => 0)), (g1, oB 6 [vi 4, vi 4, .ref g1r, .ref g1x, .ref g1y, vi 0, vi 0, vi 99]), (g1r, aI g 11 (fun _ => 0)), (g1x, aI g 10 (fun _ => 0)), (g1y, aI g 10 (fun _ => 0)), (g2, oB 6 [vi 4, vi 4, .ref g2r, .ref g2x, .ref g2y, vi 0, vi 0, vi 99]), (g2r, aI g 11 (fun _ => 0)), (g2x, aI g 10 (fun _ => 0)), (g2y, aI g 10 (fun _ => 0)), (g3, oB 6 [vi 4, vi 4, .ref g3r, .ref g3x, .ref g3y, vi 0, vi 0, vi 99]), (g3r, aI g 11 (fun _ => 0)), (g3x, aI g 10 (fun _ => 0)), (g3y, aI g 10 (fun _ => 0))]) (lv' := [(1, vi 4), (0, .ref a)]) rfl rfl ?_
  refine r_goto C 33 dX3_init_55 rfl ?_
  refine r_iload_n C dX3_init_33 0 rfl ?_
  refine r_bipush C dX3_init_34 rfl ?_
  refine r_icmp_ge C 58 dX3_init_36 rfl (by omega) (fun c_11 => ?_) (fun c_11 => ?_)
  · exact absurd c_11 (by decide)
  refine r_aload_n C dX3_init_39 1 rfl ?_
  refine gf_X3_11 C dX3_init_40 0 rfl rfl ?_
  refine r_iload_n C dX3_init_43 0 rfl ?_
  refine r_new C 6 [vi 0, vi 0, .null, .null, .null, vi 0, vi 0, vi 0] inlX7 tyX7 tyX7_ok rfl dfX7 (in_r4 (List.mem_of_getElem? (i := 14) rfl)) (in_r1 (List.mem_of_getElem? (i := 21) rfl)) (in_r1 (List.mem_of_getElem? (i := 22) rfl)) dX3_init_44 rfl (fun g4 => ?_)
  refine r_at (ws' := [(a, oB 3 [.ref q_1, .ref q_2, vi 0, vi 0]), (q_1, aQ g 6 (va_up (va_up (va_up (va_up (fun _ => none) (zI 0).toNatClampNeg (some g0)) (zI 1).toNatClampNeg (some g1)) (zI 2).toNatClampNeg (some g2)) (zI 3).toNatClampNeg (some g3))), (q_2, aI g 6 (fun _ => 0)), (g0, oB 6 [vi 4, vi 4, .ref g0r, .ref g0x, .ref g0y, vi 0, vi 0, vi 99]), (g0r, aI g 11 (fun _ => 0)), (g0x, aI g 10 (fun _ => 0)), (g0y, aI g 10 (fun _ => 0)), (g1, oB 6 [vi 4, vi 4, .ref g1r, .ref g1x, .ref g1y, vi 0, vi 0, vi 99]), (g1r, aI g 11 (fun _ => 0)), (g1x, aI g 10 (fun _ => 0)), (g1y, aI g 10 (fun _ => 0)), (g2, oB 6 [vi 4, vi 4, .ref g2r, .ref g2x, .ref g2y, vi 0, vi 0, vi 99]), (g2r, aI g 11 (fun _ => 0)), (g2x, aI g 10 (fun _ => 0)), (g2y, aI g 10 (fun _ => 0)), (g3, oB 6 [vi 4, vi 4, .ref g3r, .ref g3x, .ref g3y, vi 0, vi 0, vi 99]), (g3r, aI g 11 (fun _ => 0)), (g3x, aI g 10 (fun _ => 0)), (g3y, aI g 10 (fun _ => 0)), (g4, oB 6 [vi 0, vi 0, .null, .null, .null, vi 0, vi 0, vi 0])]) (lv' := [(1, vi 4), (0, .ref a)]) rfl rfl ?_
  refine r_dup C dX3_init_47 rfl ?_
  refine k_IN (host := RX11) C hAO ki_X3_28 (fun sz => c_X7_init l g g4 sz) dX3_init_48 rfl rfl (ws0 := [(a, oB 3 [.ref q_1, .ref q_2, vi 0, vi 0]), (q_1, aQ g 6 (va_up (va_up (va_up (va_up (fun _ => none) (zI 0).toNatClampNeg (some g0)) (zI 1).toNatClampNeg (some g1)) (zI 2).toNatClampNeg (some g2)) (zI 3).toNatClampNeg (some g3))), (q_2, aI g 6 (fun _ => 0)), (g0, oB 6 [vi 4, vi 4, .ref g0r, .ref g0x, .ref g0y, vi 0, vi 0, vi 99]), (g0r, aI g 11 (fun _ => 0)), (g0x, aI g 10 (fun _ => 0)), (g0y, aI g 10 (fun _ => 0)), (g1, oB 6 [vi 4, vi 4, .ref g1r, .ref g1x, .ref g1y, vi 0, vi 0, vi 99]), (g1r, aI g 11 (fun _ => 0)), (g1x, aI g 10 (fun _ => 0)), (g1y, aI g 10 (fun _ => 0)), (g2, oB 6 [vi 4, vi 4, .ref g2r, .ref g2x, .ref g2y, vi 0, vi 0, vi 99]), (g2r, aI g 11 (fun _ => 0)), (g2x, aI g 10 (fun _ => 0)), (g2y, aI g 10 (fun _ => 0)), (g3, oB 6 [vi 4, vi 4, .ref g3r, .ref g3x, .ref g3y, vi 0, vi 0, vi 99]), (g3r, aI g 11 (fun _ => 0)), (g3x, aI g 10 (fun _ => 0)), (g3y, aI g 10 (fun _ => 0))]) rfl (fun u_ p_12 => ?_)
  obtain ⟨g4r, g4x, g4y⟩ := u_
  refine r_at (ws' := [(a, oB 3 [.ref q_1, .ref q_2, vi 0, vi 0]), (q_1, aQ g 6 (va_up (va_up (va_up (va_up (fun _ => none) (zI 0).toNatClampNeg (some g0)) (zI 1).toNatClampNeg (some g1)) (zI 2).toNatClampNeg (some g2)) (zI 3).toNatClampNeg (some g3))), (q_2, aI g 6 (fun _ => 0)), (g0, oB 6 [vi 4, vi 4, .ref g0r, .ref g0x, .ref g0y, vi 0, vi 0, vi 99]), (g0r, aI g 11 (fun _ => 0)), (g0x, aI g 10 (fun _ => 0)), (g0y, aI g 10 (fun _ => 0)), (g1, oB 6 [vi 4, vi 4, .ref g1r, .ref g1x, .ref g1y, vi 0, vi 0, vi 99]), (g1r, aI g 11 (fun _ => 0)), (g1x, aI g 10 (fun _ => 0)), (g1y, aI g 10 (fun _ => 0)), (g2, oB 6 [vi 4, vi 4, .ref g2r, .ref g2x, .ref g2y, vi 0, vi 0, vi 99]), (g2r, aI g 11 (fun _ => 0)), (g2x, aI g 10 (fun _ => 0)), (g2y, aI g 10 (fun _ => 0)), (g3, oB 6 [vi 4, vi 4, .ref g3r, .ref g3x, .ref g3y, vi 0, vi 0, vi 99]), (g3r, aI g 11 (fun _ => 0)), (g3x, aI g 10 (fun _ => 0)), (g3y, aI g 10 (fun _ => 0)), (g4, oB 6 [vi 4, vi 4, .ref g4r, .ref g4x, .ref g4y, vi 0, vi 0, vi 99]), (g4r, aI g 11 (fun _ => 0)), (g4x, aI g 10 (fun _ => 0)), (g4y, aI g 10 (fun _ => 0))]) (lv' := [(1, vi 4), (0, .ref a)]) rfl rfl ?_
  refine r_aastore C (ws' := [(a, oB 3 [.ref q_1, .ref q_2, vi 0, vi 0]), (q_1, aQ g 6 (va_up (va_up (va_up (va_up (va_up (fun _ => none) (zI 0).toNatClampNeg (some g0)) (zI 1).toNatClampNeg (some g1)) (zI 2).toNatClampNeg (some g2)) (zI 3).toNatClampNeg (some g3)) (zI 4).toNatClampNeg (some g4))), (q_2, aI g 6 (fun _ => 0)), (g0, oB 6 [vi 4, vi 4, .ref g0r, .ref g0x, .ref g0y, vi 0, vi 0, vi 99]), (g0r, aI g 11 (fun _ => 0)), (g0x, aI g 10 (fun _ => 0)), (g0y, aI g 10 (fun _ => 0)), (g1, oB 6 [vi 4, vi 4, .ref g1r, .ref g1x, .ref g1y, vi 0, vi 0, vi 99]), (g1r, aI g 11 (fun _ => 0)), (g1x, aI g 10 (fun _ => 0)), (g1y, aI g 10 (fun _ => 0)), (g2, oB 6 [vi 4, vi 4, .ref g2r, .ref g2x, .ref g2y, vi 0, vi 0, vi 99]), (g2r, aI g 11 (fun _ => 0)), (g2x, aI g 10 (fun _ => 0)), (g2y, aI g 10 (fun _ => 0)), (g3, oB 6 [vi 4, vi 4, .ref g3r, .ref g3x, .ref g3y, vi 0, vi 0, vi 99]), (g3r, aI g 11 (fun _ => 0)), (g3x, aI g 10 (fun _ => 0)), (g3y, aI g 10 (fun _ => 0)), (g4, oB 6 [vi 4, vi 4, .ref g4r, .ref g4x, .ref g4y, vi 0, vi 0, vi 99]), (g4r, aI g 11 (fun _ => 0)), (g4x, aI g 10 (fun _ => 0)), (g4y, aI g 10 (fun _ => 0))]) dX3_init_51 1 19 rfl rfl rfl (by omega) rfl ?_
  refine r_iinc C (lv' := [(1, vi (4 + 1)), (0, .ref a)]) dX3_init_52 0 rfl rfl rfl ?_
  refine r_at (ws' := [(a, oB 3 [.ref q_1, .ref q_2, vi 0, vi 0]), (q_1, aQ g 6 (va_up (va_up (va_up (va_up (va_up (fun _ => none) (zI 0).toNatClampNeg (some g0)) (zI 1).toNatClampNeg (some g1)) (zI 2).toNatClampNeg (some g2)) (zI 3).toNatClampNeg (some g3)) (zI 4).toNatClampNeg (some g4))), (q_2, aI g 6 (fun _ => 0)), (g0, oB 6 [vi 4, vi 4, .ref g0r, .ref g0x, .ref g0y, vi 0, vi 0, vi 99]), (g0r, aI g 11 (fun _ => 0)), (g0x, aI g 10 (fun _ => 0)), (g0y, aI g 10 (fun _ => 0)), (g1, oB 6 [vi 4, vi 4, .ref g1r, .ref g1x, .ref g1y, vi 0, vi 0, vi 99]), (g1r, aI g 11 (fun _ => 0)), (g1x, aI g 10 (fun _ => 0)), (g1y, aI g 10 (fun _ => 0)), (g2, oB 6 [vi 4, vi 4, .ref g2r, .ref g2x, .ref g2y, vi 0, vi 0, vi 99]), (g2r, aI g 11 (fun _ => 0)), (g2x, aI g 10 (fun _ => 0)), (g2y, aI g 10 (fun _ => 0)), (g3, oB 6 [vi 4, vi 4, .ref g3r, .ref g3x, .ref g3y, vi 0, vi 0, vi 99]), (g3r, aI g 11 (fun _ => 0)), (g3x, aI g 10 (fun _ => 0)), (g3y, aI g 10 (fun _ => 0)), (g4, oB 6 [vi 4, vi 4, .ref g4r, .ref g4x, .ref g4y, vi 0, vi 0, vi 99]), (g4r, aI g 11 (fun _ => 0)), (g4x, aI g 10 (fun _ => 0)), (g4y, aI g 10 (fun _ => 0))]) (lv' := [(1, vi 5), (0, .ref a)]) rfl rfl ?_
  refine r_goto C 33 dX3_init_55 rfl ?_
  refine r_iload_n C dX3_init_33 0 rfl ?_
  refine r_bipush C dX3_init_34 rfl ?_
  refine r_icmp_ge C 58 dX3_init_36 rfl (by omega) (fun c_13 => ?_) (fun c_13 => ?_)
  · exact absurd c_13 (by decide)
  refine r_aload_n C dX3_init_39 1 rfl ?_
  refine gf_X3_11 C dX3_init_40 0 rfl rfl ?_
  refine r_iload_n C dX3_init_43 0 rfl ?_
  refine r_new C 6 [vi 0, vi 0, .null, .null, .null, vi 0, vi 0, vi 0] inlX7 tyX7 tyX7_ok rfl dfX7 (in_r4 (List.mem_of_getElem? (i := 14) rfl)) (in_r1 (List.mem_of_getElem? (i := 21) rfl)) (in_r1 (List.mem_of_getElem? (i := 22) rfl)) dX3_init_44 rfl (fun g5 => ?_)
  refine r_at (ws' := [(a, oB 3 [.ref q_1, .ref q_2, vi 0, vi 0]), (q_1, aQ g 6 (va_up (va_up (va_up (va_up (va_up (fun _ => none) (zI 0).toNatClampNeg (some g0)) (zI 1).toNatClampNeg (some g1)) (zI 2).toNatClampNeg (some g2)) (zI 3).toNatClampNeg (some g3)) (zI 4).toNatClampNeg (some g4))), (q_2, aI g 6 (fun _ => 0)), (g0, oB 6 [vi 4, vi 4, .ref g0r, .ref g0x, .ref g0y, vi 0, vi 0, vi 99]), (g0r, aI g 11 (fun _ => 0)), (g0x, aI g 10 (fun _ => 0)), (g0y, aI g 10 (fun _ => 0)), (g1, oB 6 [vi 4, vi 4, .ref g1r, .ref g1x, .ref g1y, vi 0, vi 0, vi 99]), (g1r, aI g 11 (fun _ => 0)), (g1x, aI g 10 (fun _ => 0)), (g1y, aI g 10 (fun _ => 0)), (g2, oB 6 [vi 4, vi 4, .ref g2r, .ref g2x, .ref g2y, vi 0, vi 0, vi 99]), (g2r, aI g 11 (fun _ => 0)), (g2x, aI g 10 (fun _ => 0)), (g2y, aI g 10 (fun _ => 0)), (g3, oB 6 [vi 4, vi 4, .ref g3r, .ref g3x, .ref g3y, vi 0, vi 0, vi 99]), (g3r, aI g 11 (fun _ => 0)), (g3x, aI g 10 (fun _ => 0)), (g3y, aI g 10 (fun _ => 0)), (g4, oB 6 [vi 4, vi 4, .ref g4r, .ref g4x, .ref g4y, vi 0, vi 0, vi 99]), (g4r, aI g 11 (fun _ => 0)), (g4x, aI g 10 (fun _ => 0)), (g4y, aI g 10 (fun _ => 0)), (g5, oB 6 [vi 0, vi 0, .null, .null, .null, vi 0, vi 0, vi 0])]) (lv' := [(1, vi 5), (0, .ref a)]) rfl rfl ?_
  refine r_dup C dX3_init_47 rfl ?_
  refine k_IN (host := RX11) C hAO ki_X3_28 (fun sz => c_X7_init l g g5 sz) dX3_init_48 rfl rfl (ws0 := [(a, oB 3 [.ref q_1, .ref q_2, vi 0, vi 0]), (q_1, aQ g 6 (va_up (va_up (va_up (va_up (va_up (fun _ => none) (zI 0).toNatClampNeg (some g0)) (zI 1).toNatClampNeg (some g1)) (zI 2).toNatClampNeg (some g2)) (zI 3).toNatClampNeg (some g3)) (zI 4).toNatClampNeg (some g4))), (q_2, aI g 6 (fun _ => 0)), (g0, oB 6 [vi 4, vi 4, .ref g0r, .ref g0x, .ref g0y, vi 0, vi 0, vi 99]), (g0r, aI g 11 (fun _ => 0)), (g0x, aI g 10 (fun _ => 0)), (g0y, aI g 10 (fun _ => 0)), (g1, oB 6 [vi 4, vi 4, .ref g1r, .ref g1x, .ref g1y, vi 0, vi 0, vi 99]), (g1r, aI g 11 (fun _ => 0)), (g1x, aI g 10 (fun _ => 0)), (g1y, aI g 10 (fun _ => 0)), (g2, oB 6 [vi 4, vi 4, .ref g2r, .ref g2x, .ref g2y, vi 0, vi 0, vi 99]), (g2r, aI g 11 (fun _ => 0)), (g2x, aI g 10 (fun _ => 0)), (g2y, aI g 10 (fun _ => 0)), (g3, oB 6 [vi 4, vi 4, .ref g3r, .ref g3x, .ref g3y, vi 0, vi 0, vi 99]), (g3r, aI g 11 (fun _ => 0)), (g3x, aI g 10 (fun _ => 0)), (g3y, aI g 10 (fun _ => 0)), (g4, oB 6 [vi 4, vi 4, .ref g4r, .ref g4x, .ref g4y, vi 0, vi 0, vi 99]), (g4r, aI g 11 (fun _ => 0)), (g4x, aI g 10 (fun _ => 0)), (g4y, aI g 10 (fun _ => 0))]) rfl (fun u_ p_14 => ?_)
  obtain ⟨g5r, g5x, g5y⟩ := u_
  refine r_at (ws' := [(a, oB 3 [.ref q_1, .ref q_2, vi 0, vi 0]), (q_1, aQ g 6 (va_up (va_up (va_up (va_up (va_up (fun _ => none) (zI 0).toNatClampNeg (some g0)) (zI 1).toNatClampNeg (some g1)) (zI 2).toNatClampNeg (some g2)) (zI 3).toNatClampNeg (some g3)) (zI 4).toNatClampNeg (some g4))), (q_2, aI g 6 (fun _ => 0)), (g0, oB 6 [vi 4, vi 4, .ref g0r, .ref g0x, .ref g0y, vi 0, vi 0, vi 99]), (g0r, aI g 11 (fun _ => 0)), (g0x, aI g 10 (fun _ => 0)), (g0y, aI g 10 (fun _ => 0)), (g1, oB 6 [vi 4, vi 4, .ref g1r, .ref g1x, .ref g1y, vi 0, vi 0, vi 99]), (g1r, aI g 11 (fun _ => 0)), (g1x, aI g 10 (fun _ => 0)), (g1y, aI g 10 (fun _ => 0)), (g2, oB 6 [vi 4, vi 4, .ref g2r, .ref g2x, .ref g2y, vi 0, vi 0, vi 99]), (g2r, aI g 11 (fun _ => 0)), (g2x, aI g 10 (fun _ => 0)), (g2y, aI g 10 (fun _ => 0)), (g3, oB 6 [vi 4, vi 4, .ref g3r, .ref g3x, .ref g3y, vi 0, vi 0, vi 99]), (g3r, aI g 11 (fun _ => 0)), (g3x, aI g 10 (fun _ => 0)), (g3y, aI g 10 (fun _ => 0)), (g4, oB 6 [vi 4, vi 4, .ref g4r, .ref g4x, .ref g4y, vi 0, vi 0, vi 99]), (g4r, aI g 11 (fun _ => 0)), (g4x, aI g 10 (fun _ => 0)), (g4y, aI g 10 (fun _ => 0)), (g5, oB 6 [vi 4, vi 4, .ref g5r, .ref g5x, .ref g5y, vi 0, vi 0, vi 99]), (g5r, aI g 11 (fun _ => 0)), (g5x, aI g 10 (fun _ => 0)), (g5y, aI g 10 (fun _ => 0))]) (lv' := [(1, vi 5), (0, .ref a)]) rfl rfl ?_
  refine r_aastore C (ws' := [(a, oB 3 [.ref q_1, .ref q_2, vi 0, vi 0]), (q_1, aQ g 6 (va_up (va_up (va_up (va_up (va_up (va_up (fun _ => none) (zI 0).toNatClampNeg (some g0)) (zI 1).toNatClampNeg (some g1)) (zI 2).toNatClampNeg (some g2)) (zI 3).toNatClampNeg (some g3)) (zI 4).toNatClampNeg (some g4)) (zI 5).toNatClampNeg (some g5))), (q_2, aI g 6 (fun _ => 0)), (g0, oB 6 [vi 4, vi 4, .ref g0r, .ref g0x, .ref g0y, vi 0, vi 0, vi 99]), (g0r, aI g 11 (fun _ => 0)), (g0x, aI g 10 (fun _ => 0)), (g0y, aI g 10 (fun _ => 0)), (g1, oB 6 [vi 4, vi 4, .ref g1r, .ref g1x, .ref g1y, vi 0, vi 0, vi 99]), (g1r, aI g 11 (fun _ => 0)), (g1x, aI g 10 (fun _ => 0)), (g1y, aI g 10 (fun _ => 0)), (g2, oB 6 [vi 4, vi 4, .ref g2r, .ref g2x, .ref g2y, vi 0, vi 0, vi 99]), (g2r, aI g 11 (fun _ => 0)), (g2x, aI g 10 (fun _ => 0)), (g2y, aI g 10 (fun _ => 0)), (g3, oB 6 [vi 4, vi 4, .ref g3r, .ref g3x, .ref g3y, vi 0, vi 0, vi 99]), (g3r, aI g 11 (fun _ => 0)), (g3x, aI g 10 (fun _ => 0)), (g3y, aI g 10 (fun _ => 0)), (g4, oB 6 [vi 4, vi 4, .ref g4r, .ref g4x, .ref g4y, vi 0, vi 0, vi 99]), (g4r, aI g 11 (fun _ => 0)), (g4x, aI g 10 (fun _ => 0)), (g4y, aI g 10 (fun _ => 0)), (g5, oB 6 [vi 4, vi 4, .ref g5r, .ref g5x, .ref g5y, vi 0, vi 0, vi 99]), (g5r, aI g 11 (fun _ => 0)), (g5x, aI g 10 (fun _ => 0)), (g5y, aI g 10 (fun _ => 0))]) dX3_init_51 1 23 rfl rfl rfl (by omega) rfl ?_
  refine r_iinc C (lv' := [(1, vi (5 + 1)), (0, .ref a)]) dX3_init_52 0 rfl rfl rfl ?_
  refine r_at (ws' := [(a, oB 3 [.ref q_1, .ref q_2, vi 0, vi 0]), (q_1, aQ g 6 (va_up (va_up (va_up (va_up (va_up (va_up (fun _ => none) (zI 0).toNatClampNeg (some g0)) (zI 1).toNatClampNeg (some g1)) (zI 2).toNatClampNeg (some g2)) (zI 3).toNatClampNeg (some g3)) (zI 4).toNatClampNeg (some g4)) (zI 5).toNatClampNeg (some g5))), (q_2, aI g 6 (fun _ => 0)), (g0, oB 6 [vi 4, vi 4, .ref g0r, .ref g0x, .ref g0y, vi 0, vi 0, vi 99]), (g0r, aI g 11 (fun _ => 0)), (g0x, aI g 10 (fun _ => 0)), (g0y, aI g 10 (fun _ => 0)), (g1, oB 6 [vi 4, vi 4, .ref g1r, .ref g1x, .ref g1y, vi 0, vi 0, vi 99]), (g1r, aI g 11 (fun _ => 0)), (g1x, aI g 10 (fun _ => 0)), (g1y, aI g 10 (fun _ => 0)), (g2, oB 6 [vi 4, vi 4, .ref g2r, .ref g2x, .ref g2y, vi 0, vi 0, vi 99]), (g2r, aI g 11 (fun _ => 0)), (g2x, aI g 10 (fun _ => 0)), (g2y, aI g 10 (fun _ => 0)), (g3, oB 6 [vi 4, vi 4, .ref g3r, .ref g3x, .ref g3y, vi 0, vi 0, vi 99]), (g3r, aI g 11 (fun _ => 0)), (g3x, aI g 10 (fun _ => 0)), (g3y, aI g 10 (fun _ => 0)), (g4, oB 6 [vi 4, vi 4, .ref g4r, .ref g4x, .ref g4y, vi 0, vi 0, vi 99]), (g4r, aI g 11 (fun _ => 0)), (g4x, aI g 10 (fun _ => 0)), (g4y, aI g 10 (fun _ => 0)), (g5, oB 6 [vi 4, vi 4, .ref g5r, .ref g5x, .ref g5y, vi 0, vi 0, vi 99]), (g5r, aI g 11 (fun _ => 0)), (g5x, aI g 10 (fun _ => 0)), (g5y, aI g 10 (fun _ => 0))]) (lv' := [(1, vi 6), (0, .ref a)]) rfl rfl ?_
  refine r_goto C 33 dX3_init_55 rfl ?_
  refine r_iload_n C dX3_init_33 0 rfl ?_
  refine r_bipush C dX3_init_34 rfl ?_
  refine r_icmp_ge C 58 dX3_init_36 rfl (by omega) (fun c_15 => ?_) (fun c_15 => ?_)
  rotate_left
  · exact absurd c_15 (by decide)
  refine r_extq C (ws' := [(a, oB 3 [.ref q_1, .ref q_2, vi 0, vi 0]), (q_1, aQ g 6 (q6 g0 g1 g2 g3 g4 g5)), (q_2, aI g 6 (fun _ => 0)), (g0, oB 6 [vi 4, vi 4, .ref g0r, .ref g0x, .ref g0y, vi 0, vi 0, vi 99]), (g0r, aI g 11 (fun _ => 0)), (g0x, aI g 10 (fun _ => 0)), (g0y, aI g 10 (fun _ => 0)), (g1, oB 6 [vi 4, vi 4, .ref g1r, .ref g1x, .ref g1y, vi 0, vi 0, vi 99]), (g1r, aI g 11 (fun _ => 0)), (g1x, aI g 10 (fun _ => 0)), (g1y, aI g 10 (fun _ => 0)), (g2, oB 6 [vi 4, vi 4, .ref g2r, .ref g2x, .ref g2y, vi 0, vi 0, vi 99]), (g2r, aI g 11 (fun _ => 0)), (g2x, aI g 10 (fun _ => 0)), (g2y, aI g 10 (fun _ => 0)), (g3, oB 6 [vi 4, vi 4, .ref g3r, .ref g3x, .ref g3y, vi 0, vi 0, vi 99]), (g3r, aI g 11 (fun _ => 0)), (g3x, aI g 10 (fun _ => 0)), (g3y, aI g 10 (fun _ => 0)), (g4, oB 6 [vi 4, vi 4, .ref g4r, .ref g4x, .ref g4y, vi 0, vi 0, vi 99]), (g4r, aI g 11 (fun _ => 0)), (g4x, aI g 10 (fun _ => 0)), (g4y, aI g 10 (fun _ => 0)), (g5, oB 6 [vi 4, vi 4, .ref g5r, .ref g5x, .ref g5y, vi 0, vi 0, vi 99]), (g5r, aI g 11 (fun _ => 0)), (g5x, aI g 10 (fun _ => 0)), (g5y, aI g 10 (fun _ => 0))]) 1 rfl (fun k hk => by rcases (by omega : k = 0 ∨ k = 1 ∨ k = 2 ∨ k = 3 ∨ k = 4 ∨ k = 5) with rfl | rfl | rfl | rfl | rfl | rfl <;> rfl) rfl ?_
  exact e_vM C (q_1, q_2, g0, g0r, g0x, g0y, g1, g1r, g1x, g1y, g2, g2r, g2x, g2y, g3, g3r, g3x, g3y, g4, g4r, g4x, g4y, g5, g5r, g5x, g5y) dX3_init_58 (trivial) rfl rfl rfl
