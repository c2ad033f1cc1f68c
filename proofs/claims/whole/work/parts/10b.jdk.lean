section
variable {g : Gx} {own : String} {cc : ByteArray} {nL : Nat} {ret : Option FieldType} {p : Program} {l : Launch} {e : Env} {R : Room} {s : State} {m : MethodId} {args : Array Value} {below : List Frame} {meth : Method} {c : Code} {A : Nat → Prop} {cells slots : Nat} {Q : State → Prop} {ws : va_W} {pc : Nat} {lv : List (Nat × Value)} {st : List Value}
theorem q_iload_n (C : CX g own cc nL ret A p s m args meth c) {f : Fin 4} {x : Int32} (hd : decode cc pc = .ok (.iload_n f, 1)) (j : Nat) (hj : lv[j]? = some ((f : Nat), .int x)) (k : RUN g nL p l e R s m args below meth c A cells slots Q ws (pc + 1) lv (.int x :: st)) : RUN g nL p l e R s m args below meth c A cells slots Q ws pc lv st := fun ls H locs h1 h2 h3 h4 => lv_iload_n C.1 C.2.1 hd rfl (lv_at h1 j hj) (k ls H locs h1 h2 h3 h4)
theorem q_istore_n (C : CX g own cc nL ret A p s m args meth c) {f : Fin 4} {x : Int32} {lv' : List (Nat × Value)} (hd : decode cc pc = .ok (.istore_n f, 1)) (hn : Nat.ble ((f : Nat) + 1) nL = true) (hl : ((f : Nat), Value.int x) :: lv.filter (fun q => !(q.1 == (f : Nat)) && !(q.1 + 1 == (f : Nat) && q.2.category == 2)) = lv') (k : RUN g nL p l e R s m args below meth c A cells slots Q ws (pc + 1) lv' st) : RUN g nL p l e R s m args below meth c A cells slots Q ws pc lv (.int x :: st) := fun ls H locs h1 h2 h3 h4 => lv_istore_n C.1 C.2.1 hd rfl h1 (Nat.le_of_ble_eq_true hn) hl (fun ls h1 => k ls H locs h1 h2 h3 h4)
theorem q_iand (C : CX g own cc nL ret A p s m args meth c) {x y : Int32} (hd : decode cc pc = .ok (.iand, 1)) (k : RUN g nL p l e R s m args below meth c A cells slots Q ws (pc + 1) lv (.int (x &&& y) :: st)) : RUN g nL p l e R s m args below meth c A cells slots Q ws pc lv (.int y :: .int x :: st) := fun ls H locs h1 h2 h3 h4 => lv_iand C.1 C.2.1 hd (k ls H locs h1 h2 h3 h4)
theorem q_iadd (C : CX g own cc nL ret A p s m args meth c) {x y : Int32} (hd : decode cc pc = .ok (.iadd, 1)) (k : RUN g nL p l e R s m args below meth c A cells slots Q ws (pc + 1) lv (.int (x + y) :: st)) : RUN g nL p l e R s m args below meth c A cells slots Q ws pc lv (.int y :: .int x :: st) := fun ls H locs h1 h2 h3 h4 => lv_iadd C.1 C.2.1 hd (k ls H locs h1 h2 h3 h4)
theorem q_isub (C : CX g own cc nL ret A p s m args meth c) {x y : Int32} (hd : decode cc pc = .ok (.isub, 1)) (k : RUN g nL p l e R s m args below meth c A cells slots Q ws (pc + 1) lv (.int (x - y) :: st)) : RUN g nL p l e R s m args below meth c A cells slots Q ws pc lv (.int y :: .int x :: st) := fun ls H locs h1 h2 h3 h4 => lv_isub C.1 C.2.1 hd (k ls H locs h1 h2 h3 h4)
theorem q_iushr (C : CX g own cc nL ret A p s m args meth c) {x y : Int32} (hd : decode cc pc = .ok (.iushr, 1)) (k : RUN g nL p l e R s m args below meth c A cells slots Q ws (pc + 1) lv (.int ((x.toUInt32 >>> (y.toUInt32 &&& Int32.toUInt32 31)).toInt32) :: st)) : RUN g nL p l e R s m args below meth c A cells slots Q ws pc lv (.int y :: .int x :: st) := fun ls H locs h1 h2 h3 h4 => lv_iushr C.1 C.2.1 hd rfl (k ls H locs h1 h2 h3 h4)
theorem q_top {x : Int32} (k : ∀ y : Int32, y = x → RUN g nL p l e R s m args below meth c A cells slots Q ws pc lv (.int y :: st)) : RUN g nL p l e R s m args below meth c A cells slots Q ws pc lv (.int x :: st) := k x rfl
theorem zI_tdiv {x y : Int} (h : -2147483647 ≤ x ∧ x ≤ 2147483647 ∧ 0 < y ∧ y ≤ 2147483647) : zI x / zI y = zI (x.tdiv y) := by
  apply Int32.toInt_inj.mp
  have hb : -2147483647 ≤ x.tdiv y ∧ x.tdiv y ≤ 2147483647 := by
    have h1 := Int.natAbs_tdiv_le_natAbs x y
    omega
  rw [Int32.toInt_div_of_ne_right _ _ (by
    intro hh
    have := congrArg Int32.toInt hh
    rw [zI_toInt (by omega)] at this
    rw [show (-1 : Int32).toInt = -1 from rfl] at this
    omega), zI_toInt (by omega), zI_toInt (by omega), zI_toInt (by omega)]
theorem r_tdiv (C : CX g own cc nL ret A p s m args meth c) {x y : Int} (hd : decode cc pc = .ok (.idiv, 1)) (h : -2147483647 ≤ x ∧ x ≤ 2147483647 ∧ 0 < y ∧ y ≤ 2147483647) (k : RUN g nL p l e R s m args below meth c A cells slots Q ws (pc + 1) lv (vi (x.tdiv y) :: st)) : RUN g nL p l e R s m args below meth c A cells slots Q ws pc lv (vi y :: vi x :: st) := fun ls H locs h1 h2 h3 h4 => by
  have k1 := k ls H locs h1 h2 h3 h4
  rw [show vi (x.tdiv y) = .int (zI x / zI y) from congrArg Value.int (zI_tdiv h).symm] at k1
  exact lv_idiv C.1 C.2.1 hd (fun e => by have := (zI_eq (x := y) (y := 0) (by omega)).mp e; omega) k1
end
theorem i32 (x : Int32) : -2147483648 ≤ x.toInt ∧ x.toInt ≤ 2147483647 := by
  have h1 := Int32.le_toInt x
  have h2 := Int32.toInt_lt x
  omega
/-- Integer.bitCount's steps -/
def bcI (x : Int32) : Int32 :=
  let a := x - ((x.toUInt32 >>> ((zI 1).toUInt32 &&& Int32.toUInt32 31)).toInt32 &&& zI 1431655765)
  let b := (a &&& zI 858993459) + ((a.toUInt32 >>> ((zI 2).toUInt32 &&& Int32.toUInt32 31)).toInt32 &&& zI 858993459)
  let c := (b + (b.toUInt32 >>> ((zI 4).toUInt32 &&& Int32.toUInt32 31)).toInt32) &&& zI 252645135
  let d := c + (c.toUInt32 >>> ((zI 8).toUInt32 &&& Int32.toUInt32 31)).toInt32
  let e := d + (d.toUInt32 >>> ((zI 16).toUInt32 &&& Int32.toUInt32 31)).toInt32
  e &&& zI 63
def bcOk (n : Nat) : Bool := decide (bcI (nI n) = zI (popI (n : Int)))
theorem bc_all : (List.range 2048).all bcOk = true := by decide +kernel
theorem bc_pop {v : Int} (h : 0 ≤ v ∧ v ≤ 2047) : bcI (zI v) = zI (popI v) := by
  obtain ⟨n, rfl⟩ := Int.eq_ofNat_of_zero_le h.1
  have := List.all_eq_true.mp bc_all n (List.mem_range.mpr (by omega))
  rw [zI_n]
  exact of_decide_eq_true this
def fdOk (n : Nat) : Bool := decide (0 ≤ (zI ((n : Int) - 64) ^^^ zI 2).toInt ↔ 0 ≤ (n : Int) - 64)
theorem fd_all : (List.range 128).all fdOk = true := by decide +kernel
theorem fd_sign {x : Int} (h : -64 ≤ x ∧ x ≤ 63) : 0 ≤ (zI x ^^^ zI 2).toInt ↔ 0 ≤ x := by
  obtain ⟨n, hn⟩ := Int.eq_ofNat_of_zero_le (show 0 ≤ x + 64 by omega)
  have := of_decide_eq_true (List.all_eq_true.mp fd_all n (List.mem_range.mpr (by omega)))
  rw [show x = (n : Int) - 64 by omega]
  exact this
theorem fd_div {x : Int} : x.tdiv 2 = if 0 ≤ x then x / 2 else -((-x) / 2) := by
  split
  · rename_i h; exact Int.tdiv_eq_ediv_of_nonneg h
  · rename_i h
    have : x = -(-x) := by omega
    rw [this, Int.neg_tdiv, Int.tdiv_eq_ediv_of_nonneg (by omega), Int.neg_neg]
set_option maxHeartbeats 1000000 in
set_option maxRecDepth 100000 in
theorem c_J6_bitCount_0f7a4 (l : Launch) (g : Gx) (v : Int) (hv : 0 ≤ v ∧ v ≤ 2047) (sz : Nat) : Met l yJ6_bitCount_0f7a4 (.code yJ6_bitCount_0f7a4 cJ6_bitCount_0f7a4 1 (some .int) :: wsL_law) { frames := 0, cells := 0, slots := 0, locals := 0 } (PR g [vi v] [] sz) (PI (S := Unit) g (fun r u_ => r = popI v) (fun u_ => []) [] sz) 0 0 (va_A [] sz) := by
  refine meet (own := RJ6) rfl (by decide +kernel) rfl (fun p_ e_ s_ m_ args_ below_ meth_ c_ C hnm => ?_)
  refine r_at (ws' := []) (lv' := [(0, vi v)]) rfl rfl ?_
  refine q_iload_n C dJ6_bitCount_0f7a4_0 0 rfl ?_
  refine q_iload_n C dJ6_bitCount_0f7a4_1 0 rfl ?_
  refine r_iconst C dJ6_bitCount_0f7a4_2 ?_
  refine q_iushr C dJ6_bitCount_0f7a4_3 ?_
  refine r_ldcw C (n := 1431655765) (in_r15 (List.mem_of_getElem? (i := 13) rfl)) rfl dJ6_bitCount_0f7a4_4 ?_
  refine q_iand C dJ6_bitCount_0f7a4_7 ?_
  refine q_isub C dJ6_bitCount_0f7a4_8 ?_
  refine q_top (fun t_1 et_1 => ?_)
  refine q_istore_n C (lv' := [(0, .int t_1)]) dJ6_bitCount_0f7a4_9 rfl rfl ?_
  refine q_iload_n C dJ6_bitCount_0f7a4_10 0 rfl ?_
  refine r_ldcw C (n := 858993459) (in_r15 (List.mem_of_getElem? (i := 14) rfl)) rfl dJ6_bitCount_0f7a4_11 ?_
  refine q_iand C dJ6_bitCount_0f7a4_14 ?_
  refine q_iload_n C dJ6_bitCount_0f7a4_15 0 rfl ?_
  refine r_iconst C dJ6_bitCount_0f7a4_16 ?_
  refine q_iushr C dJ6_bitCount_0f7a4_17 ?_
  refine r_ldcw C (n := 858993459) (in_r15 (List.mem_of_getElem? (i := 14) rfl)) rfl dJ6_bitCount_0f7a4_18 ?_
  refine q_iand C dJ6_bitCount_0f7a4_21 ?_
  refine q_iadd C dJ6_bitCount_0f7a4_22 ?_
  refine q_top (fun t_2 et_2 => ?_)
  refine q_istore_n C (lv' := [(0, .int t_2)]) dJ6_bitCount_0f7a4_23 rfl rfl ?_
  refine q_iload_n C dJ6_bitCount_0f7a4_24 0 rfl ?_
  refine q_iload_n C dJ6_bitCount_0f7a4_25 0 rfl ?_
  refine r_iconst C dJ6_bitCount_0f7a4_26 ?_
  refine q_iushr C dJ6_bitCount_0f7a4_27 ?_
  refine q_iadd C dJ6_bitCount_0f7a4_28 ?_
  refine r_ldcw C (n := 252645135) (in_r15 (List.mem_of_getElem? (i := 15) rfl)) rfl dJ6_bitCount_0f7a4_29 ?_
  refine q_iand C dJ6_bitCount_0f7a4_32 ?_
  refine q_top (fun t_3 et_3 => ?_)
  refine q_istore_n C (lv' := [(0, .int t_3)]) dJ6_bitCount_0f7a4_33 rfl rfl ?_
  refine q_iload_n C dJ6_bitCount_0f7a4_34 0 rfl ?_
  refine q_iload_n C dJ6_bitCount_0f7a4_35 0 rfl ?_
  refine r_bipush C dJ6_bitCount_0f7a4_36 rfl ?_
  refine q_iushr C dJ6_bitCount_0f7a4_38 ?_
  refine q_iadd C dJ6_bitCount_0f7a4_39 ?_
  refine q_top (fun t_4 et_4 => ?_)
  refine q_istore_n C (lv' := [(0, .int t_4)]) dJ6_bitCount_0f7a4_40 rfl rfl ?_
  refine q_iload_n C dJ6_bitCount_0f7a4_41 0 rfl ?_
  refine q_iload_n C dJ6_bitCount_0f7a4_42 0 rfl ?_
  refine r_bipush C dJ6_bitCount_0f7a4_43 rfl ?_
  refine q_iushr C dJ6_bitCount_0f7a4_45 ?_
  refine q_iadd C dJ6_bitCount_0f7a4_46 ?_
  refine q_top (fun t_5 et_5 => ?_)
  refine q_istore_n C (lv' := [(0, .int t_5)]) dJ6_bitCount_0f7a4_47 rfl rfl ?_
  refine q_iload_n C dJ6_bitCount_0f7a4_48 0 rfl ?_
  refine r_bipush C dJ6_bitCount_0f7a4_49 rfl ?_
  refine q_iand C dJ6_bitCount_0f7a4_51 ?_
  refine r_st (st' := [vi (popI v)]) (by show [Value.int (t_5 &&& zI 63)] = [Value.int (zI (popI v))]; rw [← bc_pop hv]; subst et_1 et_2 et_3 et_4 et_5; rfl) ?_
  exact e_i C () dJ6_bitCount_0f7a4_52 (show (popI v) = popI v from rfl) rfl
set_option maxHeartbeats 1000000 in
set_option maxRecDepth 100000 in
theorem c_J9_floorDiv_7cf53 (l : Launch) (g : Gx) (x : Int) (hx : -64 ≤ x ∧ x ≤ 63) (sz : Nat) : Met l yJ9_floorDiv_7cf53 (.code yJ9_floorDiv_7cf53 cJ9_floorDiv_7cf53 3 (some .int) :: wsL_law) { frames := 0, cells := 0, slots := 0, locals := 0 } (PR g [vi x, vi 2] [] sz) (PI (S := Unit) g (fun r u_ => r = x / 2) (fun u_ => []) [] sz) 0 0 (va_A [] sz) := by
  refine meet (own := RJ9) rfl (by decide +kernel) rfl (fun p_ e_ s_ m_ args_ below_ meth_ c_ C hnm => ?_)
  refine r_at (ws' := []) (lv' := [(0, vi x), (1, vi 2)]) rfl rfl ?_
  have hs := fd_sign hx
  have hq := fd_div (x := x)
  refine r_iload_n C dJ9_floorDiv_7cf53_0 0 rfl ?_
  refine r_iload_n C dJ9_floorDiv_7cf53_1 1 rfl ?_
  refine r_tdiv C dJ9_floorDiv_7cf53_2 (by omega) ?_
  refine r_istore_n C (lv' := [(2, vi ((x).tdiv 2)), (0, vi x), (1, vi 2)]) dJ9_floorDiv_7cf53_3 rfl rfl ?_
  refine r_iload_n C dJ9_floorDiv_7cf53_4 1 rfl ?_
  refine r_iload_n C dJ9_floorDiv_7cf53_5 2 rfl ?_
  refine r_ixor C (z := ((zI x ^^^ zI 2).toInt)) dJ9_floorDiv_7cf53_6 (zI_self _).symm ?_
  refine r_if_ge C 21 dJ9_floorDiv_7cf53_7 rfl (i32 _) (fun c_1 => ?_) (fun c_1 => ?_)
  · skip
    refine r_iload_n C dJ9_floorDiv_7cf53_21 0 rfl ?_
    exact e_i C () dJ9_floorDiv_7cf53_22 (show ((x).tdiv 2) = x / 2 from by omega) rfl
  · skip
    refine r_iload_n C dJ9_floorDiv_7cf53_10 0 rfl ?_
    refine r_iload_n C dJ9_floorDiv_7cf53_11 2 rfl ?_
    refine r_imul C dJ9_floorDiv_7cf53_12 ?_
    refine r_iload_n C dJ9_floorDiv_7cf53_13 1 rfl ?_
    refine r_icmp_eq C 21 dJ9_floorDiv_7cf53_14 rfl (by omega) (fun c_2 => ?_) (fun c_2 => ?_)
    · skip
      refine r_iload_n C dJ9_floorDiv_7cf53_21 0 rfl ?_
      exact e_i C () dJ9_floorDiv_7cf53_22 (show ((x).tdiv 2) = x / 2 from by omega) rfl
    · skip
      refine r_iload_n C dJ9_floorDiv_7cf53_17 0 rfl ?_
      refine r_iconst C dJ9_floorDiv_7cf53_18 ?_
      refine r_isub C dJ9_floorDiv_7cf53_19 ?_
      exact e_i C () dJ9_floorDiv_7cf53_20 (show (((x).tdiv 2) - 1) = x / 2 from by omega) rfl
