theorem qs_max : Cond.static Lib.Math.max.name ∈ wsL_law := in_r22 (List.mem_of_getElem? (i := 20) rfl)
theorem qc_max : Cond.code Lib.Math.max.name Lib.Math.max.code 2 (some .int) ∈ wsL_law := in_r22 (List.mem_of_getElem? (i := 21) rfl)
theorem qs_min : Cond.static Lib.Math.min.name ∈ wsL_law := in_r17 (List.mem_of_getElem? (i := 2) rfl)
theorem qc_min : Cond.code Lib.Math.min.name Lib.Math.min.code 2 (some .int) ∈ wsL_law := in_r17 (List.mem_of_getElem? (i := 4) rfl)
theorem qs_abs : Cond.static Lib.Math.abs.name ∈ wsL_law := in_r22 (List.mem_of_getElem? (i := 17) rfl)
theorem qc_abs : Cond.code Lib.Math.abs.name Lib.Math.abs.code 1 (some .int) ∈ wsL_law := in_r22 (List.mem_of_getElem? (i := 18) rfl)
theorem qs_Math : Cond.initialized "java/lang/Math" ∈ wsL_law := in_r17 (List.mem_of_getElem? (i := 3) rfl)
section
variable {g : Gx} {own : String} {cc : ByteArray} {nL : Nat} {ret : Option FieldType} {p : Program} {l : Launch} {e : Env} {R : Room} {s : State} {m : MethodId} {args : Array Value} {below : List Frame} {meth : Method} {c : Code} {A : Nat → Prop} {cells slots : Nat} {Q : State → Prop} {ws : va_W} {pc : Nat} {lv : List (Nat × Value)} {st : List Value}
theorem r_iconst (C : CX g own cc nL ret A p s m args meth c) {n : Int} (hd : decode cc pc = .ok (.iconst n, 1)) (k : RUN g nL p l e R s m args below meth c A cells slots Q ws (pc + 1) lv (vi n :: st)) : RUN g nL p l e R s m args below meth c A cells slots Q ws pc lv st :=
  fun ls H locs h1 h2 h3 h4 => lv_iconst C.1 C.2.1 hd rfl (k ls H locs h1 h2 h3 h4)
theorem r_bipush (C : CX g own cc nL ret A p s m args meth c) {n : Int} (hd : decode cc pc = .ok (.bipush n, 2)) (hn : (Int8.ofInt n).toInt32 = zI n) (k : RUN g nL p l e R s m args below meth c A cells slots Q ws (pc + 2) lv (vi n :: st)) : RUN g nL p l e R s m args below meth c A cells slots Q ws pc lv st :=
  fun ls H locs h1 h2 h3 h4 => lv_bipush C.1 C.2.1 hd hn (k ls H locs h1 h2 h3 h4)
theorem r_sipush (C : CX g own cc nL ret A p s m args meth c) {n : Int} (hd : decode cc pc = .ok (.sipush n, 3)) (hn : (Int16.ofInt n).toInt32 = zI n) (k : RUN g nL p l e R s m args below meth c A cells slots Q ws (pc + 3) lv (vi n :: st)) : RUN g nL p l e R s m args below meth c A cells slots Q ws pc lv st :=
  fun ls H locs h1 h2 h3 h4 => lv_sipush C.1 C.2.1 hd hn (k ls H locs h1 h2 h3 h4)
theorem r_ldc (C : CX g own cc nL ret A p s m args meth c) {i : Nat} {n : Int} {v : Int32} (hw : Cond.constant own i v ∈ wsL_law) (hv : v = zI n) (hd : decode cc pc = .ok (.ldc i, 2)) (k : RUN g nL p l e R s m args below meth c A cells slots Q ws (pc + 2) lv (vi n :: st)) : RUN g nL p l e R s m args below meth c A cells slots Q ws pc lv st :=
  fun ls H locs h1 h2 h3 h4 => by
  subst hv
  exact lv_ldc C.1 C.2.1 C.2.2.2.1 (C.2.2.2.2.1 _ hw) hd (k ls H locs h1 h2 h3 h4)
theorem r_ldcw (C : CX g own cc nL ret A p s m args meth c) {i : Nat} {n : Int} {v : Int32} (hw : Cond.constant own i v ∈ wsL_law) (hv : v = zI n) (hd : decode cc pc = .ok (.ldc_w i, 3)) (k : RUN g nL p l e R s m args below meth c A cells slots Q ws (pc + 3) lv (vi n :: st)) : RUN g nL p l e R s m args below meth c A cells slots Q ws pc lv st :=
  fun ls H locs h1 h2 h3 h4 => by
  subst hv
  exact lv_ldcw C.1 C.2.1 C.2.2.2.1 (C.2.2.2.2.1 _ hw) hd (k ls H locs h1 h2 h3 h4)
theorem r_iload_n (C : CX g own cc nL ret A p s m args meth c) {f : Fin 4} {x : Int} (hd : decode cc pc = .ok (.iload_n f, 1)) (j : Nat) (hj : lv[j]? = some ((f : Nat), vi x)) (k : RUN g nL p l e R s m args below meth c A cells slots Q ws (pc + 1) lv (vi x :: st)) : RUN g nL p l e R s m args below meth c A cells slots Q ws pc lv st :=
  fun ls H locs h1 h2 h3 h4 => lv_iload_n C.1 C.2.1 hd rfl (lv_at h1 j hj) (k ls H locs h1 h2 h3 h4)
theorem r_iload (C : CX g own cc nL ret A p s m args meth c) {i : Nat} {x : Int} (hd : decode cc pc = .ok (.iload i, 2)) (j : Nat) (hj : lv[j]? = some (i, vi x)) (k : RUN g nL p l e R s m args below meth c A cells slots Q ws (pc + 2) lv (vi x :: st)) : RUN g nL p l e R s m args below meth c A cells slots Q ws pc lv st :=
  fun ls H locs h1 h2 h3 h4 => lv_iload C.1 C.2.1 hd (lv_at h1 j hj) (k ls H locs h1 h2 h3 h4)
theorem r_aload_n (C : CX g own cc nL ret A p s m args meth c) {f : Fin 4} {a : Nat} (hd : decode cc pc = .ok (.aload_n f, 1)) (j : Nat) (hj : lv[j]? = some ((f : Nat), .ref a)) (k : RUN g nL p l e R s m args below meth c A cells slots Q ws (pc + 1) lv (.ref a :: st)) : RUN g nL p l e R s m args below meth c A cells slots Q ws pc lv st :=
  fun ls H locs h1 h2 h3 h4 => lv_aload_n C.1 C.2.1 hd rfl (lv_at h1 j hj) (k ls H locs h1 h2 h3 h4)
theorem r_aload (C : CX g own cc nL ret A p s m args meth c) {i : Nat} {a : Nat} (hd : decode cc pc = .ok (.aload i, 2)) (j : Nat) (hj : lv[j]? = some (i, .ref a)) (k : RUN g nL p l e R s m args below meth c A cells slots Q ws (pc + 2) lv (.ref a :: st)) : RUN g nL p l e R s m args below meth c A cells slots Q ws pc lv st :=
  fun ls H locs h1 h2 h3 h4 => lv_aload C.1 C.2.1 hd (lv_at h1 j hj) (k ls H locs h1 h2 h3 h4)
theorem r_istore_n (C : CX g own cc nL ret A p s m args meth c) {f : Fin 4} {x : Int} {lv' : List (Nat × Value)} (hd : decode cc pc = .ok (.istore_n f, 1)) (hn : Nat.ble ((f : Nat) + 1) nL = true) (hl : ((f : Nat), vi x) :: lv.filter (fun q => !(q.1 == (f : Nat)) && !(q.1 + 1 == (f : Nat) && q.2.category == 2)) = lv') (k : RUN g nL p l e R s m args below meth c A cells slots Q ws (pc + 1) lv' st) : RUN g nL p l e R s m args below meth c A cells slots Q ws pc lv (vi x :: st) :=
  fun ls H locs h1 h2 h3 h4 => lv_istore_n C.1 C.2.1 hd rfl h1 (Nat.le_of_ble_eq_true hn) hl (fun ls h1 => k ls H locs h1 h2 h3 h4)
theorem r_istore (C : CX g own cc nL ret A p s m args meth c) {i : Nat} {x : Int} {lv' : List (Nat × Value)} (hd : decode cc pc = .ok (.istore i, 2)) (hn : Nat.ble (i + 1) nL = true) (hl : (i, vi x) :: lv.filter (fun q => !(q.1 == i) && !(q.1 + 1 == i && q.2.category == 2)) = lv') (k : RUN g nL p l e R s m args below meth c A cells slots Q ws (pc + 2) lv' st) : RUN g nL p l e R s m args below meth c A cells slots Q ws pc lv (vi x :: st) :=
  fun ls H locs h1 h2 h3 h4 => lv_istore C.1 C.2.1 hd h1 (Nat.le_of_ble_eq_true hn) hl (fun ls h1 => k ls H locs h1 h2 h3 h4)
theorem r_astore_n (C : CX g own cc nL ret A p s m args meth c) {f : Fin 4} {a : Nat} {lv' : List (Nat × Value)} (hd : decode cc pc = .ok (.astore_n f, 1)) (hn : Nat.ble ((f : Nat) + 1) nL = true) (hl : ((f : Nat), Value.ref a) :: lv.filter (fun q => !(q.1 == (f : Nat)) && !(q.1 + 1 == (f : Nat) && q.2.category == 2)) = lv') (k : RUN g nL p l e R s m args below meth c A cells slots Q ws (pc + 1) lv' st) : RUN g nL p l e R s m args below meth c A cells slots Q ws pc lv (.ref a :: st) :=
  fun ls H locs h1 h2 h3 h4 => lv_astore_n C.1 C.2.1 hd rfl h1 (Nat.le_of_ble_eq_true hn) hl (fun ls h1 => k ls H locs h1 h2 h3 h4)
theorem r_astore (C : CX g own cc nL ret A p s m args meth c) {i : Nat} {a : Nat} {lv' : List (Nat × Value)} (hd : decode cc pc = .ok (.astore i, 2)) (hn : Nat.ble (i + 1) nL = true) (hl : (i, Value.ref a) :: lv.filter (fun q => !(q.1 == i) && !(q.1 + 1 == i && q.2.category == 2)) = lv') (k : RUN g nL p l e R s m args below meth c A cells slots Q ws (pc + 2) lv' st) : RUN g nL p l e R s m args below meth c A cells slots Q ws pc lv (.ref a :: st) :=
  fun ls H locs h1 h2 h3 h4 => lv_astore C.1 C.2.1 hd h1 (Nat.le_of_ble_eq_true hn) hl (fun ls h1 => k ls H locs h1 h2 h3 h4)
theorem r_iinc (C : CX g own cc nL ret A p s m args meth c) {i : Nat} {n x : Int} {lv' : List (Nat × Value)} (hd : decode cc pc = .ok (.iinc i n, 3)) (j : Nat) (hj : lv[j]? = some (i, vi x)) (hn : Nat.ble (i + 1) nL = true) (hl : (i, vi (x + n)) :: lv.filter (fun q => !(q.1 == i) && !(q.1 + 1 == i && q.2.category == 2)) = lv') (k : RUN g nL p l e R s m args below meth c A cells slots Q ws (pc + 3) lv' st) : RUN g nL p l e R s m args below meth c A cells slots Q ws pc lv st :=
  fun ls H locs h1 h2 h3 h4 => lv_iinc C.1 C.2.1 hd h1 hj (zI_add x n) (Nat.le_of_ble_eq_true hn) hl (fun ls h1 => k ls H locs h1 h2 h3 h4)
theorem r_iadd (C : CX g own cc nL ret A p s m args meth c) {x y : Int} (hd : decode cc pc = .ok (.iadd, 1)) (k : RUN g nL p l e R s m args below meth c A cells slots Q ws (pc + 1) lv (vi (x + y) :: st)) : RUN g nL p l e R s m args below meth c A cells slots Q ws pc lv (vi y :: vi x :: st) :=
  fun ls H locs h1 h2 h3 h4 => by
  have k1 := k ls H locs h1 h2 h3 h4
  rw [show vi (x + y) = .int (zI x + zI y) from congrArg Value.int (zI_add x y).symm] at k1
  exact lv_iadd C.1 C.2.1 hd k1
theorem r_isub (C : CX g own cc nL ret A p s m args meth c) {x y : Int} (hd : decode cc pc = .ok (.isub, 1)) (k : RUN g nL p l e R s m args below meth c A cells slots Q ws (pc + 1) lv (vi (x - y) :: st)) : RUN g nL p l e R s m args below meth c A cells slots Q ws pc lv (vi y :: vi x :: st) :=
  fun ls H locs h1 h2 h3 h4 => by
  have k1 := k ls H locs h1 h2 h3 h4
  rw [show vi (x - y) = .int (zI x - zI y) from congrArg Value.int (zI_sub x y).symm] at k1
  exact lv_isub C.1 C.2.1 hd k1
theorem r_imul (C : CX g own cc nL ret A p s m args meth c) {x y : Int} (hd : decode cc pc = .ok (.imul, 1)) (k : RUN g nL p l e R s m args below meth c A cells slots Q ws (pc + 1) lv (vi (x * y) :: st)) : RUN g nL p l e R s m args below meth c A cells slots Q ws pc lv (vi y :: vi x :: st) :=
  fun ls H locs h1 h2 h3 h4 => by
  have k1 := k ls H locs h1 h2 h3 h4
  rw [show vi (x * y) = .int (zI x * zI y) from congrArg Value.int (zI_mul x y).symm] at k1
  exact lv_imul C.1 C.2.1 hd k1
theorem r_ineg (C : CX g own cc nL ret A p s m args meth c) {x : Int} (hd : decode cc pc = .ok (.ineg, 1)) (k : RUN g nL p l e R s m args below meth c A cells slots Q ws (pc + 1) lv (vi (-x) :: st)) : RUN g nL p l e R s m args below meth c A cells slots Q ws pc lv (vi x :: st) :=
  fun ls H locs h1 h2 h3 h4 => by
  have k1 := k ls H locs h1 h2 h3 h4
  rw [show vi (-x) = .int (-zI x) from congrArg Value.int (zI_neg x).symm] at k1
  exact lv_ineg C.1 C.2.1 hd k1
theorem r_idiv (C : CX g own cc nL ret A p s m args meth c) {x y : Int} (hd : decode cc pc = .ok (.idiv, 1)) (h : 0 ≤ x ∧ x ≤ 2147483647 ∧ 0 < y ∧ y ≤ 2147483647) (k : RUN g nL p l e R s m args below meth c A cells slots Q ws (pc + 1) lv (vi (x / y) :: st)) : RUN g nL p l e R s m args below meth c A cells slots Q ws pc lv (vi y :: vi x :: st) :=
  fun ls H locs h1 h2 h3 h4 => by
  have k1 := k ls H locs h1 h2 h3 h4
  rw [show vi (x / y) = .int (zI x / zI y) from congrArg Value.int (zI_div h).symm] at k1
  exact lv_idiv C.1 C.2.1 hd (fun e => by have := (zI_eq (x := y) (y := 0) (by omega)).mp e; omega) k1
theorem r_irem (C : CX g own cc nL ret A p s m args meth c) {x y : Int} (hd : decode cc pc = .ok (.irem, 1)) (h : 0 ≤ x ∧ x ≤ 2147483647 ∧ 0 < y ∧ y ≤ 2147483647) (k : RUN g nL p l e R s m args below meth c A cells slots Q ws (pc + 1) lv (vi (x % y) :: st)) : RUN g nL p l e R s m args below meth c A cells slots Q ws pc lv (vi y :: vi x :: st) :=
  fun ls H locs h1 h2 h3 h4 => by
  have k1 := k ls H locs h1 h2 h3 h4
  rw [show vi (x % y) = .int (zI x - zI x / zI y * zI y) from congrArg Value.int (zI_rem h).symm] at k1
  exact lv_irem C.1 C.2.1 hd (fun e => by have := (zI_eq (x := y) (y := 0) (by omega)).mp e; omega) k1
theorem r_iand (C : CX g own cc nL ret A p s m args meth c) {x y z : Int} (hd : decode cc pc = .ok (.iand, 1)) (h : (zI x &&& zI y) = zI z) (k : RUN g nL p l e R s m args below meth c A cells slots Q ws (pc + 1) lv (vi z :: st)) : RUN g nL p l e R s m args below meth c A cells slots Q ws pc lv (vi y :: vi x :: st) :=
  fun ls H locs h1 h2 h3 h4 => by
  have k1 := k ls H locs h1 h2 h3 h4
  rw [show vi z = .int (zI x &&& zI y) from congrArg Value.int h.symm] at k1
  exact lv_iand C.1 C.2.1 hd k1
theorem r_ior (C : CX g own cc nL ret A p s m args meth c) {x y z : Int} (hd : decode cc pc = .ok (.ior, 1)) (h : (zI x ||| zI y) = zI z) (k : RUN g nL p l e R s m args below meth c A cells slots Q ws (pc + 1) lv (vi z :: st)) : RUN g nL p l e R s m args below meth c A cells slots Q ws pc lv (vi y :: vi x :: st) :=
  fun ls H locs h1 h2 h3 h4 => by
  have k1 := k ls H locs h1 h2 h3 h4
  rw [show vi z = .int (zI x ||| zI y) from congrArg Value.int h.symm] at k1
  exact lv_ior C.1 C.2.1 hd k1
theorem r_ixor (C : CX g own cc nL ret A p s m args meth c) {x y z : Int} (hd : decode cc pc = .ok (.ixor, 1)) (h : (zI x ^^^ zI y) = zI z) (k : RUN g nL p l e R s m args below meth c A cells slots Q ws (pc + 1) lv (vi z :: st)) : RUN g nL p l e R s m args below meth c A cells slots Q ws pc lv (vi y :: vi x :: st) :=
  fun ls H locs h1 h2 h3 h4 => by
  have k1 := k ls H locs h1 h2 h3 h4
  rw [show vi z = .int (zI x ^^^ zI y) from congrArg Value.int h.symm] at k1
  exact lv_ixor C.1 C.2.1 hd k1
theorem r_ishl (C : CX g own cc nL ret A p s m args meth c) {x y z : Int} (hd : decode cc pc = .ok (.ishl, 1)) (h : (zI x <<< (zI y &&& 31)) = zI z) (k : RUN g nL p l e R s m args below meth c A cells slots Q ws (pc + 1) lv (vi z :: st)) : RUN g nL p l e R s m args below meth c A cells slots Q ws pc lv (vi y :: vi x :: st) :=
  fun ls H locs h1 h2 h3 h4 => by
  have k1 := k ls H locs h1 h2 h3 h4
  rw [show vi z = .int (zI x <<< (zI y &&& 31)) from congrArg Value.int h.symm] at k1
  exact lv_ishl C.1 C.2.1 hd k1
theorem r_ishr (C : CX g own cc nL ret A p s m args meth c) {x y z : Int} (hd : decode cc pc = .ok (.ishr, 1)) (h : (zI x >>> (zI y &&& 31)) = zI z) (k : RUN g nL p l e R s m args below meth c A cells slots Q ws (pc + 1) lv (vi z :: st)) : RUN g nL p l e R s m args below meth c A cells slots Q ws pc lv (vi y :: vi x :: st) :=
  fun ls H locs h1 h2 h3 h4 => by
  have k1 := k ls H locs h1 h2 h3 h4
  rw [show vi z = .int (zI x >>> (zI y &&& 31)) from congrArg Value.int h.symm] at k1
  exact lv_ishr C.1 C.2.1 hd k1
theorem r_i2c (C : CX g own cc nL ret A p s m args meth c) {x : Int} (hd : decode cc pc = .ok (.i2c, 1)) (h : ((zI x).toUInt32 % 65536).toInt32 = zI x) (k : RUN g nL p l e R s m args below meth c A cells slots Q ws (pc + 1) lv (vi x :: st)) : RUN g nL p l e R s m args below meth c A cells slots Q ws pc lv (vi x :: st) :=
  fun ls H locs h1 h2 h3 h4 => lv_i2c C.1 C.2.1 hd h (k ls H locs h1 h2 h3 h4)
theorem r_dup (C : CX g own cc nL ret A p s m args meth c) {v : Value} (hd : decode cc pc = .ok (.dup, 1)) (hv : v.category = 1) (k : RUN g nL p l e R s m args below meth c A cells slots Q ws (pc + 1) lv (v :: v :: st)) : RUN g nL p l e R s m args below meth c A cells slots Q ws pc lv (v :: st) :=
  fun ls H locs h1 h2 h3 h4 => lv_dup C.1 C.2.1 hd hv (k ls H locs h1 h2 h3 h4)
theorem r_pop (C : CX g own cc nL ret A p s m args meth c) {v : Value} (hd : decode cc pc = .ok (.pop, 1)) (hv : v.category = 1) (k : RUN g nL p l e R s m args below meth c A cells slots Q ws (pc + 1) lv st) : RUN g nL p l e R s m args below meth c A cells slots Q ws pc lv (v :: st) :=
  fun ls H locs h1 h2 h3 h4 => lv_pop C.1 C.2.1 hd hv (k ls H locs h1 h2 h3 h4)
theorem r_dup_x1 (C : CX g own cc nL ret A p s m args meth c) {v w : Value} (hd : decode cc pc = .ok (.dup_x1, 1)) (hv : v.category = 1) (hw : w.category = 1) (k : RUN g nL p l e R s m args below meth c A cells slots Q ws (pc + 1) lv (v :: w :: v :: st)) : RUN g nL p l e R s m args below meth c A cells slots Q ws pc lv (v :: w :: st) :=
  fun ls H locs h1 h2 h3 h4 => lv_dup_x1 C.1 C.2.1 hd hv hw (k ls H locs h1 h2 h3 h4)
theorem r_dup2 (C : CX g own cc nL ret A p s m args meth c) {v w : Value} (hd : decode cc pc = .ok (.dup2, 1)) (hv : v.category = 1) (hw : w.category = 1) (k : RUN g nL p l e R s m args below meth c A cells slots Q ws (pc + 1) lv (v :: w :: v :: w :: st)) : RUN g nL p l e R s m args below meth c A cells slots Q ws pc lv (v :: w :: st) :=
  fun ls H locs h1 h2 h3 h4 => lv_dup2_11 C.1 C.2.1 hd hv hw (k ls H locs h1 h2 h3 h4)
theorem r_goto (C : CX g own cc nL ret A p s m args meth c) {off : Int} (tgt : Nat) (hd : decode cc pc = .ok (.goto off, 3)) (ht : (pc : Int) + off = (tgt : Int)) (k : RUN g nL p l e R s m args below meth c A cells slots Q ws tgt lv st) : RUN g nL p l e R s m args below meth c A cells slots Q ws pc lv st :=
  fun ls H locs h1 h2 h3 h4 => lv_goto C.1 C.2.1 hd ht (k ls H locs h1 h2 h3 h4)
theorem r_icmp_eq (C : CX g own cc nL ret A p s m args meth c) {off : Int} {x y : Int} (tgt : Nat) (hd : decode cc pc = .ok (.if_icmp .eq off, 3)) (ht : (pc : Int) + off = (tgt : Int)) (h : -2147483648 ≤ x ∧ x ≤ 2147483647 ∧ -2147483648 ≤ y ∧ y ≤ 2147483647) (kt : x = y → RUN g nL p l e R s m args below meth c A cells slots Q ws tgt lv st) (kf : ¬ (x = y) → RUN g nL p l e R s m args below meth c A cells slots Q ws (pc + 3) lv st) : RUN g nL p l e R s m args below meth c A cells slots Q ws pc lv (vi y :: vi x :: st) :=
  fun ls H locs h1 h2 h3 h4 => lv_icmp_eq C.1 C.2.1 hd ht (fun q => kt ((zI_eq h).mp q) ls H locs h1 h2 h3 h4) (fun q => kf (fun z => q ((zI_eq h).mpr z)) ls H locs h1 h2 h3 h4)
theorem r_if_eq (C : CX g own cc nL ret A p s m args meth c) {off : Int} {x : Int} (tgt : Nat) (hd : decode cc pc = .ok (.ifCond .eq off, 3)) (ht : (pc : Int) + off = (tgt : Int)) (h : -2147483648 ≤ x ∧ x ≤ 2147483647) (kt : x = 0 → RUN g nL p l e R s m args below meth c A cells slots Q ws tgt lv st) (kf : ¬ (x = 0) → RUN g nL p l e R s m args below meth c A cells slots Q ws (pc + 3) lv st) : RUN g nL p l e R s m args below meth c A cells slots Q ws pc lv (vi x :: st) :=
  fun ls H locs h1 h2 h3 h4 => lv_if_eq C.1 C.2.1 hd ht (fun q => kt ((zI_eq ⟨h.1, h.2, by decide, by decide⟩).mp q) ls H locs h1 h2 h3 h4) (fun q => kf (fun z => q ((zI_eq ⟨h.1, h.2, by decide, by decide⟩).mpr z)) ls H locs h1 h2 h3 h4)
theorem r_icmp_ne (C : CX g own cc nL ret A p s m args meth c) {off : Int} {x y : Int} (tgt : Nat) (hd : decode cc pc = .ok (.if_icmp .ne off, 3)) (ht : (pc : Int) + off = (tgt : Int)) (h : -2147483648 ≤ x ∧ x ≤ 2147483647 ∧ -2147483648 ≤ y ∧ y ≤ 2147483647) (kt : ¬ x = y → RUN g nL p l e R s m args below meth c A cells slots Q ws tgt lv st) (kf : x = y → RUN g nL p l e R s m args below meth c A cells slots Q ws (pc + 3) lv st) : RUN g nL p l e R s m args below meth c A cells slots Q ws pc lv (vi y :: vi x :: st) :=
  fun ls H locs h1 h2 h3 h4 => lv_icmp_ne C.1 C.2.1 hd ht (fun q => kt (fun z => q ((zI_eq h).mpr z)) ls H locs h1 h2 h3 h4) (fun q => kf ((zI_eq h).mp q) ls H locs h1 h2 h3 h4)
theorem r_if_ne (C : CX g own cc nL ret A p s m args meth c) {off : Int} {x : Int} (tgt : Nat) (hd : decode cc pc = .ok (.ifCond .ne off, 3)) (ht : (pc : Int) + off = (tgt : Int)) (h : -2147483648 ≤ x ∧ x ≤ 2147483647) (kt : ¬ x = 0 → RUN g nL p l e R s m args below meth c A cells slots Q ws tgt lv st) (kf : x = 0 → RUN g nL p l e R s m args below meth c A cells slots Q ws (pc + 3) lv st) : RUN g nL p l e R s m args below meth c A cells slots Q ws pc lv (vi x :: st) :=
  fun ls H locs h1 h2 h3 h4 => lv_if_ne C.1 C.2.1 hd ht (fun q => kt (fun z => q ((zI_eq ⟨h.1, h.2, by decide, by decide⟩).mpr z)) ls H locs h1 h2 h3 h4) (fun q => kf ((zI_eq ⟨h.1, h.2, by decide, by decide⟩).mp q) ls H locs h1 h2 h3 h4)
theorem r_icmp_lt (C : CX g own cc nL ret A p s m args meth c) {off : Int} {x y : Int} (tgt : Nat) (hd : decode cc pc = .ok (.if_icmp .lt off, 3)) (ht : (pc : Int) + off = (tgt : Int)) (h : -2147483648 ≤ x ∧ x ≤ 2147483647 ∧ -2147483648 ≤ y ∧ y ≤ 2147483647) (kt : x < y → RUN g nL p l e R s m args below meth c A cells slots Q ws tgt lv st) (kf : ¬ (x < y) → RUN g nL p l e R s m args below meth c A cells slots Q ws (pc + 3) lv st) : RUN g nL p l e R s m args below meth c A cells slots Q ws pc lv (vi y :: vi x :: st) :=
  fun ls H locs h1 h2 h3 h4 => lv_icmp_lt C.1 C.2.1 hd ht (fun q => kt ((zI_lt h).mp q) ls H locs h1 h2 h3 h4) (fun q => kf (fun z => q ((zI_lt h).mpr z)) ls H locs h1 h2 h3 h4)
theorem r_if_lt (C : CX g own cc nL ret A p s m args meth c) {off : Int} {x : Int} (tgt : Nat) (hd : decode cc pc = .ok (.ifCond .lt off, 3)) (ht : (pc : Int) + off = (tgt : Int)) (h : -2147483648 ≤ x ∧ x ≤ 2147483647) (kt : x < 0 → RUN g nL p l e R s m args below meth c A cells slots Q ws tgt lv st) (kf : ¬ (x < 0) → RUN g nL p l e R s m args below meth c A cells slots Q ws (pc + 3) lv st) : RUN g nL p l e R s m args below meth c A cells slots Q ws pc lv (vi x :: st) :=
  fun ls H locs h1 h2 h3 h4 => lv_if_lt C.1 C.2.1 hd ht (fun q => kt ((zI_lt ⟨h.1, h.2, by decide, by decide⟩).mp q) ls H locs h1 h2 h3 h4) (fun q => kf (fun z => q ((zI_lt ⟨h.1, h.2, by decide, by decide⟩).mpr z)) ls H locs h1 h2 h3 h4)
theorem r_icmp_ge (C : CX g own cc nL ret A p s m args meth c) {off : Int} {x y : Int} (tgt : Nat) (hd : decode cc pc = .ok (.if_icmp .ge off, 3)) (ht : (pc : Int) + off = (tgt : Int)) (h : -2147483648 ≤ x ∧ x ≤ 2147483647 ∧ -2147483648 ≤ y ∧ y ≤ 2147483647) (kt : y ≤ x → RUN g nL p l e R s m args below meth c A cells slots Q ws tgt lv st) (kf : ¬ (y ≤ x) → RUN g nL p l e R s m args below meth c A cells slots Q ws (pc + 3) lv st) : RUN g nL p l e R s m args below meth c A cells slots Q ws pc lv (vi y :: vi x :: st) :=
  fun ls H locs h1 h2 h3 h4 => lv_icmp_ge C.1 C.2.1 hd ht (fun q => kt ((zI_le ⟨h.2.2.1, h.2.2.2, h.1, h.2.1⟩).mp q) ls H locs h1 h2 h3 h4) (fun q => kf (fun z => q ((zI_le ⟨h.2.2.1, h.2.2.2, h.1, h.2.1⟩).mpr z)) ls H locs h1 h2 h3 h4)
theorem r_if_ge (C : CX g own cc nL ret A p s m args meth c) {off : Int} {x : Int} (tgt : Nat) (hd : decode cc pc = .ok (.ifCond .ge off, 3)) (ht : (pc : Int) + off = (tgt : Int)) (h : -2147483648 ≤ x ∧ x ≤ 2147483647) (kt : 0 ≤ x → RUN g nL p l e R s m args below meth c A cells slots Q ws tgt lv st) (kf : ¬ (0 ≤ x) → RUN g nL p l e R s m args below meth c A cells slots Q ws (pc + 3) lv st) : RUN g nL p l e R s m args below meth c A cells slots Q ws pc lv (vi x :: st) :=
  fun ls H locs h1 h2 h3 h4 => lv_if_ge C.1 C.2.1 hd ht (fun q => kt ((zI_le ⟨by decide, by decide, h.1, h.2⟩).mp q) ls H locs h1 h2 h3 h4) (fun q => kf (fun z => q ((zI_le ⟨by decide, by decide, h.1, h.2⟩).mpr z)) ls H locs h1 h2 h3 h4)
theorem r_icmp_gt (C : CX g own cc nL ret A p s m args meth c) {off : Int} {x y : Int} (tgt : Nat) (hd : decode cc pc = .ok (.if_icmp .gt off, 3)) (ht : (pc : Int) + off = (tgt : Int)) (h : -2147483648 ≤ x ∧ x ≤ 2147483647 ∧ -2147483648 ≤ y ∧ y ≤ 2147483647) (kt : y < x → RUN g nL p l e R s m args below meth c A cells slots Q ws tgt lv st) (kf : ¬ (y < x) → RUN g nL p l e R s m args below meth c A cells slots Q ws (pc + 3) lv st) : RUN g nL p l e R s m args below meth c A cells slots Q ws pc lv (vi y :: vi x :: st) :=
  fun ls H locs h1 h2 h3 h4 => lv_icmp_gt C.1 C.2.1 hd ht (fun q => kt ((zI_lt ⟨h.2.2.1, h.2.2.2, h.1, h.2.1⟩).mp q) ls H locs h1 h2 h3 h4) (fun q => kf (fun z => q ((zI_lt ⟨h.2.2.1, h.2.2.2, h.1, h.2.1⟩).mpr z)) ls H locs h1 h2 h3 h4)
theorem r_if_gt (C : CX g own cc nL ret A p s m args meth c) {off : Int} {x : Int} (tgt : Nat) (hd : decode cc pc = .ok (.ifCond .gt off, 3)) (ht : (pc : Int) + off = (tgt : Int)) (h : -2147483648 ≤ x ∧ x ≤ 2147483647) (kt : 0 < x → RUN g nL p l e R s m args below meth c A cells slots Q ws tgt lv st) (kf : ¬ (0 < x) → RUN g nL p l e R s m args below meth c A cells slots Q ws (pc + 3) lv st) : RUN g nL p l e R s m args below meth c A cells slots Q ws pc lv (vi x :: st) :=
  fun ls H locs h1 h2 h3 h4 => lv_if_gt C.1 C.2.1 hd ht (fun q => kt ((zI_lt ⟨by decide, by decide, h.1, h.2⟩).mp q) ls H locs h1 h2 h3 h4) (fun q => kf (fun z => q ((zI_lt ⟨by decide, by decide, h.1, h.2⟩).mpr z)) ls H locs h1 h2 h3 h4)
theorem r_icmp_le (C : CX g own cc nL ret A p s m args meth c) {off : Int} {x y : Int} (tgt : Nat) (hd : decode cc pc = .ok (.if_icmp .le off, 3)) (ht : (pc : Int) + off = (tgt : Int)) (h : -2147483648 ≤ x ∧ x ≤ 2147483647 ∧ -2147483648 ≤ y ∧ y ≤ 2147483647) (kt : x ≤ y → RUN g nL p l e R s m args below meth c A cells slots Q ws tgt lv st) (kf : ¬ (x ≤ y) → RUN g nL p l e R s m args below meth c A cells slots Q ws (pc + 3) lv st) : RUN g nL p l e R s m args below meth c A cells slots Q ws pc lv (vi y :: vi x :: st) :=
  fun ls H locs h1 h2 h3 h4 => lv_icmp_le C.1 C.2.1 hd ht (fun q => kt ((zI_le h).mp q) ls H locs h1 h2 h3 h4) (fun q => kf (fun z => q ((zI_le h).mpr z)) ls H locs h1 h2 h3 h4)
theorem r_if_le (C : CX g own cc nL ret A p s m args meth c) {off : Int} {x : Int} (tgt : Nat) (hd : decode cc pc = .ok (.ifCond .le off, 3)) (ht : (pc : Int) + off = (tgt : Int)) (h : -2147483648 ≤ x ∧ x ≤ 2147483647) (kt : x ≤ 0 → RUN g nL p l e R s m args below meth c A cells slots Q ws tgt lv st) (kf : ¬ (x ≤ 0) → RUN g nL p l e R s m args below meth c A cells slots Q ws (pc + 3) lv st) : RUN g nL p l e R s m args below meth c A cells slots Q ws pc lv (vi x :: st) :=
  fun ls H locs h1 h2 h3 h4 => lv_if_le C.1 C.2.1 hd ht (fun q => kt ((zI_le ⟨h.1, h.2, by decide, by decide⟩).mp q) ls H locs h1 h2 h3 h4) (fun q => kf (fun z => q ((zI_le ⟨h.1, h.2, by decide, by decide⟩).mpr z)) ls H locs h1 h2 h3 h4)
theorem r_iald (C : CX g own cc nL ret A p s m args meth c) {a n : Nat} {f : Int → Int} {i : Int} (hd : decode cc pc = .ok (.iaload, 1)) (q0 : Nat) (hq : ws[q0]? = some (a, aI g n f)) (hn : Nat.ble n 1000000 = true) (h : 0 ≤ i ∧ i < n) (k : RUN g nL p l e R s m args below meth c A cells slots Q ws (pc + 1) lv (vi (f i) :: st)) : RUN g nL p l e R s m args below meth c A cells slots Q ws pc lv (vi i :: .ref a :: st) :=
  fun ls H locs h1 h2 h3 h4 => by
  have k1 := k ls H locs h1 h2 h3 h4
  rw [show vi (f i) = .int (zR f (zI i).toNatClampNeg) from congrArg Value.int (zR_at hn h).symm] at k1
  exact va_iald C.1 C.2.1 C.2.2.2.2.2.1 h2 q0 1 hq rfl (zI_in hn h) hd k1
theorem r_cald (C : CX g own cc nL ret A p s m args meth c) {a n : Nat} {f : Int → Int} {i : Int} (hd : decode cc pc = .ok (.caload, 1)) (q0 : Nat) (hq : ws[q0]? = some (a, aC g n f)) (hn : Nat.ble n 1000000 = true) (h : 0 ≤ i ∧ i < n) (k : RUN g nL p l e R s m args below meth c A cells slots Q ws (pc + 1) lv (vi (f i) :: st)) : RUN g nL p l e R s m args below meth c A cells slots Q ws pc lv (vi i :: .ref a :: st) :=
  fun ls H locs h1 h2 h3 h4 => by
  have k1 := k ls H locs h1 h2 h3 h4
  rw [show vi (f i) = .int (zR f (zI i).toNatClampNeg) from congrArg Value.int (zR_at hn h).symm] at k1
  exact va_cald C.1 C.2.1 C.2.2.2.2.2.1 h2 q0 0 hq rfl (zI_in hn h) hd k1
theorem r_zald (C : CX g own cc nL ret A p s m args meth c) {a n : Nat} {f : Int → Int} {i : Int} (hd : decode cc pc = .ok (.baload, 1)) (q0 : Nat) (hq : ws[q0]? = some (a, aZ g n f)) (hn : Nat.ble n 1000000 = true) (h : 0 ≤ i ∧ i < n) (k : RUN g nL p l e R s m args below meth c A cells slots Q ws (pc + 1) lv (vi (f i) :: st)) : RUN g nL p l e R s m args below meth c A cells slots Q ws pc lv (vi i :: .ref a :: st) :=
  fun ls H locs h1 h2 h3 h4 => by
  have k1 := k ls H locs h1 h2 h3 h4
  rw [show vi (f i) = .int (zR f (zI i).toNatClampNeg) from congrArg Value.int (zR_at hn h).symm] at k1
  exact va_zald C.1 C.2.1 C.2.2.2.2.2.1 h2 q0 2 hq rfl (zI_in hn h) hd k1
theorem r_iast (C : CX g own cc nL ret A p s m args meth c) {a n : Nat} {f : Int → Int} {i v : Int} {ws' : va_W} (hd : decode cc pc = .ok (.iastore, 1)) (q0 : Nat) (hq : ws[q0]? = some (a, aI g n f)) (hn : Nat.ble n 1000000 = true) (h : 0 ≤ i ∧ i < n) (hw : ws.set q0 (a, aI g n (zU f i v)) = ws') (k : RUN g nL p l e R s m args below meth c A cells slots Q ws' (pc + 1) lv st) : RUN g nL p l e R s m args below meth c A cells slots Q ws pc lv (vi v :: vi i :: .ref a :: st) :=
  fun ls H locs h1 h2 h3 h4 => by
  subst hw
  refine va_iast C.1 C.2.1 C.2.2.2.2.2.1 h2 h3 h4 q0 1 hq rfl (zI_in hn h) hd (fun H1 locs1 h2 h3 h4 => ?_)
  rw [zR_up hn h] at h2 h3
  exact k ls H1 locs1 h1 h2 h3 h4
theorem r_cast (C : CX g own cc nL ret A p s m args meth c) {a n : Nat} {f : Int → Int} {i v : Int} {ws' : va_W} (hd : decode cc pc = .ok (.castore, 1)) (q0 : Nat) (hq : ws[q0]? = some (a, aC g n f)) (hn : Nat.ble n 1000000 = true) (h : 0 ≤ i ∧ i < n) (hv : vp_nar .char (zI v) = zI v) (hw : ws.set q0 (a, aC g n (zU f i v)) = ws') (k : RUN g nL p l e R s m args below meth c A cells slots Q ws' (pc + 1) lv st) : RUN g nL p l e R s m args below meth c A cells slots Q ws pc lv (vi v :: vi i :: .ref a :: st) :=
  fun ls H locs h1 h2 h3 h4 => by
  subst hw
  refine va_cast C.1 C.2.1 C.2.2.2.2.2.1 h2 h3 h4 q0 0 hq rfl (zI_in hn h) hd (fun H1 locs1 h2 h3 h4 => ?_)
  rw [hv, zR_up hn h] at h2 h3
  exact k ls H1 locs1 h1 h2 h3 h4
theorem r_zast (C : CX g own cc nL ret A p s m args meth c) {a n : Nat} {f : Int → Int} {i v : Int} {ws' : va_W} (hd : decode cc pc = .ok (.bastore, 1)) (q0 : Nat) (hq : ws[q0]? = some (a, aZ g n f)) (hn : Nat.ble n 1000000 = true) (h : 0 ≤ i ∧ i < n) (hv : vp_nar .boolean (zI v) = zI v) (hw : ws.set q0 (a, aZ g n (zU f i v)) = ws') (k : RUN g nL p l e R s m args below meth c A cells slots Q ws' (pc + 1) lv st) : RUN g nL p l e R s m args below meth c A cells slots Q ws pc lv (vi v :: vi i :: .ref a :: st) :=
  fun ls H locs h1 h2 h3 h4 => by
  subst hw
  refine va_zast C.1 C.2.1 C.2.2.2.2.2.1 h2 h3 h4 q0 2 hq rfl (zI_in hn h) hd (fun H1 locs1 h2 h3 h4 => ?_)
  rw [hv, zR_up hn h] at h2 h3
  exact k ls H1 locs1 h1 h2 h3 h4
theorem r_ilen (C : CX g own cc nL ret A p s m args meth c) {a n : Nat} {f : Int → Int} (hd : decode cc pc = .ok (.arraylength, 1)) (q0 : Nat) (hq : ws[q0]? = some (a, aI g n f)) (k : RUN g nL p l e R s m args below meth c A cells slots Q ws (pc + 1) lv (vi (n : Int) :: st)) : RUN g nL p l e R s m args below meth c A cells slots Q ws pc lv (.ref a :: st) :=
  fun ls H locs h1 h2 h3 h4 => va_alen C.1 C.2.1 C.2.2.2.2.2.1 h2 q0 1 (ty := .int) hq rfl (zI_nat n) hd (k ls H locs h1 h2 h3 h4)
theorem r_clen (C : CX g own cc nL ret A p s m args meth c) {a n : Nat} {f : Int → Int} (hd : decode cc pc = .ok (.arraylength, 1)) (q0 : Nat) (hq : ws[q0]? = some (a, aC g n f)) (k : RUN g nL p l e R s m args below meth c A cells slots Q ws (pc + 1) lv (vi (n : Int) :: st)) : RUN g nL p l e R s m args below meth c A cells slots Q ws pc lv (.ref a :: st) :=
  fun ls H locs h1 h2 h3 h4 => va_alen C.1 C.2.1 C.2.2.2.2.2.1 h2 q0 0 (ty := .char) hq rfl (zI_nat n) hd (k ls H locs h1 h2 h3 h4)
theorem r_zlen (C : CX g own cc nL ret A p s m args meth c) {a n : Nat} {f : Int → Int} (hd : decode cc pc = .ok (.arraylength, 1)) (q0 : Nat) (hq : ws[q0]? = some (a, aZ g n f)) (k : RUN g nL p l e R s m args below meth c A cells slots Q ws (pc + 1) lv (vi (n : Int) :: st)) : RUN g nL p l e R s m args below meth c A cells slots Q ws pc lv (.ref a :: st) :=
  fun ls H locs h1 h2 h3 h4 => va_alen C.1 C.2.1 C.2.2.2.2.2.1 h2 q0 2 (ty := .boolean) hq rfl (zI_nat n) hd (k ls H locs h1 h2 h3 h4)
theorem r_aald (C : CX g own cc nL ret A p s m args meth c) {a n b : Nat} {f : Nat → Option Nat} {i : Int} (hd : decode cc pc = .ok (.aaload, 1)) (q0 : Nat) (hq : ws[q0]? = some (a, aQ g n f)) (hn : Nat.ble n 1000000 = true) (h : 0 ≤ i ∧ i < n) (hf : f i.toNat = some b) (k : RUN g nL p l e R s m args below meth c A cells slots Q ws (pc + 1) lv (.ref b :: st)) : RUN g nL p l e R s m args below meth c A cells slots Q ws pc lv (vi i :: .ref a :: st) :=
  fun ls H locs h1 h2 h3 h4 => by
  have hn2 := Nat.le_of_ble_eq_true hn
  have k1 := k ls H locs h1 h2 h3 h4
  rw [show Value.ref b = va_rf (f (zI i).toNatClampNeg) by rw [zI_cl (by omega), hf]; rfl] at k1
  exact va_aldq C.1 C.2.1 C.2.2.2.2.2.1 h2 q0 3 hq rfl (zI_in hn h) hd k1
theorem r_get (C : CX g own cc nL ret A p s m args meth c) {C' ref : String} {T : u_T} {N ci index a : Nat} {fs : List Value} {v : Value} (hin : ∀ w ∈ u_ws C' T N, w ∈ wsL_law) (hc : vwCl[ci]? = some (C', T, N)) (i : Nat) (hi : i < N) (hl : Cond.fieldLink own index ref (T i).2.1 (T i).2.2.1 ∈ wsL_law) (hr : (T i).1 = ref) (hd : decode cc pc = .ok (.getfield index, 3)) (q0 : Nat) (hq : ws[q0]? = some (a, oB ci fs)) (hv : fs[i]? = some v) (k : RUN g nL p l e R s m args below meth c A cells slots Q ws (pc + 3) lv (v :: st)) : RUN g nL p l e R s m args below meth c A cells slots Q ws pc lv (.ref a :: st) :=
  fun ls H locs h1 h2 h3 h4 => va_get C.1 C.2.1 C.2.2.2.2.1 hin C.2.2.2.1 C.2.2.2.2.2.1 h2 q0 hq hc i hi (C.2.2.2.2.1 _ hl) (fun x hx => hr ▸ hx) hv hd (k ls H locs h1 h2 h3 h4)
theorem r_getN (C : CX g own cc nL ret A p s m args meth c) {C' ref host : String} {T : u_T} {N ci index a : Nat} {fs : List Value} {v : Value} (hin : ∀ w ∈ u_ws C' T N, w ∈ wsL_law) (hc : vwCl[ci]? = some (C', T, N)) (i : Nat) (hi : i < N) (hl : (own, index, ref, (T i).2.1, (T i).2.2.1, host) ∈ nwF) (hr : (T i).1 = ref) (hd : decode cc pc = .ok (.getfield index, 3)) (q0 : Nat) (hq : ws[q0]? = some (a, oB ci fs)) (hv : fs[i]? = some v) (k : RUN g nL p l e R s m args below meth c A cells slots Q ws (pc + 3) lv (v :: st)) : RUN g nL p l e R s m args below meth c A cells slots Q ws pc lv (.ref a :: st) :=
  fun ls H locs h1 h2 h3 h4 => va_getN C.1 C.2.1 C.2.2.2.2.1 hin C.2.2.2.1 C.2.2.2.2.2.1 h2 q0 hq hc i hi (va_Nw.use rfl (C.2.2.2.2.2.2.1.1 _ hl)) (fun x hx => hr ▸ hx) hv hd (k ls H locs h1 h2 h3 h4)
theorem r_put (C : CX g own cc nL ret A p s m args meth c) {C' ref host : String} {T : u_T} {N ci index a : Nat} {fs : List Value} {v : Value} {ty : FieldType} {ws' : va_W} (hin : ∀ w ∈ u_ws C' T N, w ∈ wsL_law) (ty0 : Nat → FieldType) (hty : ∀ k, k < N → parseFieldDescriptor (T k).2.2.1 = some (ty0 k)) (hnm : ∀ a, a < N → ∀ b, b < N → a ≠ b → (T a).2.1 ≠ (T b).2.1) (hc : vwCl[ci]? = some (C', T, N)) (i : Nat) (hi : i < N) (hl : Cond.fieldLink own index ref (T i).2.1 (T i).2.2.1 ∈ wsL_law) (hr : (T i).1 = ref) (hf : (T i).2.2.2 = false) (ht : ty0 i = ty) (hd : decode cc pc = .ok (.putfield index, 3)) (q0 : Nat) (hq : ws[q0]? = some (a, oB ci fs)) (hlen : i < fs.length) (hna : narrow ty v = v) (hfi : fits ty v = true) (hw : ws.set q0 (a, oB ci (fs.set i v)) = ws') (k : RUN g nL p l e R s m args below meth c A cells slots Q ws' (pc + 3) lv st) : RUN g nL p l e R s m args below meth c A cells slots Q ws pc lv (v :: .ref a :: st) :=
  fun ls H locs h1 h2 h3 h4 => by
  subst hw
  exact va_put C.1 C.2.1 C.2.2.2.2.1 hin ty0 hty hnm C.2.2.2.1 C.2.2.2.2.2.1 h2 h3 h4 q0 hq hc i hi (C.2.2.2.2.1 _ hl) (fun x hx => hr ▸ hx) hf (by rw [hty i hi, ht]) hna hfi hlen hd (fun H1 locs1 h2 h3 h4 => k ls H1 locs1 h1 h2 h3 h4)
theorem r_putN (C : CX g own cc nL ret A p s m args meth c) {C' ref host : String} {T : u_T} {N ci index a : Nat} {fs : List Value} {v : Value} {ty : FieldType} {ws' : va_W} (hin : ∀ w ∈ u_ws C' T N, w ∈ wsL_law) (ty0 : Nat → FieldType) (hty : ∀ k, k < N → parseFieldDescriptor (T k).2.2.1 = some (ty0 k)) (hnm : ∀ a, a < N → ∀ b, b < N → a ≠ b → (T a).2.1 ≠ (T b).2.1) (hc : vwCl[ci]? = some (C', T, N)) (i : Nat) (hi : i < N) (hl : (own, index, ref, (T i).2.1, (T i).2.2.1, host) ∈ nwF) (hr : (T i).1 = ref) (hf : (T i).2.2.2 = false) (ht : ty0 i = ty) (hd : decode cc pc = .ok (.putfield index, 3)) (q0 : Nat) (hq : ws[q0]? = some (a, oB ci fs)) (hlen : i < fs.length) (hna : narrow ty v = v) (hfi : fits ty v = true) (hw : ws.set q0 (a, oB ci (fs.set i v)) = ws') (k : RUN g nL p l e R s m args below meth c A cells slots Q ws' (pc + 3) lv st) : RUN g nL p l e R s m args below meth c A cells slots Q ws pc lv (v :: .ref a :: st) :=
  fun ls H locs h1 h2 h3 h4 => by
  subst hw
  exact va_putN C.1 C.2.1 C.2.2.2.2.1 hin ty0 hty hnm C.2.2.2.1 C.2.2.2.2.2.1 h2 h3 h4 q0 hq hc i hi (va_Nw.use rfl (C.2.2.2.2.2.2.1.1 _ hl)) (fun x hx => hr ▸ hx) hf (by rw [hty i hi, ht]) hna hfi hlen hd (fun H1 locs1 h2 h3 h4 => k ls H1 locs1 h1 h2 h3 h4)
theorem r_putF (C : CX g own cc nL ret A p s m args meth c) {C' ref host : String} {T : u_T} {N ci index a : Nat} {fs : List Value} {v : Value} {ty : FieldType} {ws' : va_W} (hin : ∀ w ∈ u_ws C' T N, w ∈ wsL_law) (ty0 : Nat → FieldType) (hty : ∀ k, k < N → parseFieldDescriptor (T k).2.2.1 = some (ty0 k)) (hnm : ∀ a, a < N → ∀ b, b < N → a ≠ b → (T a).2.1 ≠ (T b).2.1) (hc : vwCl[ci]? = some (C', T, N)) (i : Nat) (hi : i < N) (hl : Cond.fieldLink own index ref (T i).2.1 (T i).2.2.1 ∈ wsL_law) (hr : (T i).1 = ref) (hf : (T i).2.2.2 = true) (hin2 : meth.name = "<init>") (hdc : (T i).1 = own) (ht : ty0 i = ty) (hd : decode cc pc = .ok (.putfield index, 3)) (q0 : Nat) (hq : ws[q0]? = some (a, oB ci fs)) (hlen : i < fs.length) (hna : narrow ty v = v) (hfi : fits ty v = true) (hw : ws.set q0 (a, oB ci (fs.set i v)) = ws') (k : RUN g nL p l e R s m args below meth c A cells slots Q ws' (pc + 3) lv st) : RUN g nL p l e R s m args below meth c A cells slots Q ws pc lv (v :: .ref a :: st) :=
  fun ls H locs h1 h2 h3 h4 => by
  subst hw
  exact va_putF C.1 C.2.1 C.2.2.2.2.1 hin ty0 hty hnm C.2.2.2.1 C.2.2.2.2.2.1 h2 h3 h4 q0 hq hc i hi (C.2.2.2.2.1 _ hl) (fun x hx => hr ▸ hx) hf hin2 hdc (by rw [hty i hi, ht]) hna hfi hlen hd (fun H1 locs1 h2 h3 h4 => k ls H1 locs1 h1 h2 h3 h4)
theorem r_top {x : Int} (k : ∀ y : Int, y = x → RUN g nL p l e R s m args below meth c A cells slots Q ws pc lv (vi y :: st)) : RUN g nL p l e R s m args below meth c A cells slots Q ws pc lv (vi x :: st) := k x rfl
theorem r_eq {x y : Int} (h : x = y) (k : RUN g nL p l e R s m args below meth c A cells slots Q ws pc lv (vi y :: st)) : RUN g nL p l e R s m args below meth c A cells slots Q ws pc lv (vi x :: st) := h ▸ k
theorem r_lv {lv' : List (Nat × Value)} (ks : List Nat) (h : lv_pick lv ks = lv') (k : RUN g nL p l e R s m args below meth c A cells slots Q ws pc lv' st) : RUN g nL p l e R s m args below meth c A cells slots Q ws pc lv st := fun ls H locs h1 h2 h3 h4 => k ls H locs (lv_sub h1 ks h) h2 h3 h4
theorem r_ws {ws' : va_W} (h : ws = ws') (k : RUN g nL p l e R s m args below meth c A cells slots Q ws' pc lv st) : RUN g nL p l e R s m args below meth c A cells slots Q ws pc lv st := h ▸ k
theorem r_st {st' : List Value} (h : st = st') (k : RUN g nL p l e R s m args below meth c A cells slots Q ws pc lv st') : RUN g nL p l e R s m args below meth c A cells slots Q ws pc lv st := h ▸ k
theorem r_mmax (C : CX g own cc nL ret A p s m args meth c) {x y : Int} {index : Nat} (hl : Cond.methodLink own index Lib.Math.max.name ∈ wsL_law) (hd : decode cc pc = .ok (.invokestatic index, 3)) (hR : Nat.ble 1 R.frames = true ∧ Nat.ble ((st.map fun v => v.category).sum + 13) R.locals = true ∧ Nat.ble cells R.cells = true ∧ Nat.ble slots R.slots = true) (h : -2147483648 ≤ x ∧ x ≤ 2147483647 ∧ -2147483648 ≤ y ∧ y ≤ 2147483647) (k : RUN g nL p l e R s m args below meth c A cells slots Q ws (pc + 3) lv (vi (max x y) :: st)) : RUN g nL p l e R s m args below meth c A cells slots Q ws pc lv (vi y :: vi x :: st) :=
  fun ls H locs h1 h2 h3 h4 => by
  have k1 := k ls H locs h1 h2 h3 h4
  have he : zI (max x y) = (if zI x < zI y then zI y else zI x) := by
    rw [show max x y = if x < y then y else x by omega]
    by_cases q : x < y
    · rw [if_pos q, if_pos ((zI_lt h).mpr q)]
    · rw [if_neg q, if_neg (fun z => q ((zI_lt h).mp z))]
  rw [show vi (max x y) = .int (if zI x < zI y then zI y else zI x) from congrArg Value.int he] at k1
  exact va_mmax C.1 C.2.1 (by rw [C.2.2.1]; exact h1.1.symm) C.2.2.2.1 (C.2.2.2.2.1 _ hl) (C.2.2.2.2.1 _ qs_max) (C.2.2.2.2.1 _ qs_Math) (C.2.2.2.2.1 _ qc_max) (Nat.le_of_ble_eq_true hR.1) (Nat.le_of_ble_eq_true hR.2.1) (Nat.le_of_ble_eq_true hR.2.2.1) (Nat.le_of_ble_eq_true hR.2.2.2) hd k1
theorem r_mmin (C : CX g own cc nL ret A p s m args meth c) {x y : Int} {index : Nat} (hl : Cond.methodLink own index Lib.Math.min.name ∈ wsL_law) (hd : decode cc pc = .ok (.invokestatic index, 3)) (hR : Nat.ble 1 R.frames = true ∧ Nat.ble ((st.map fun v => v.category).sum + 13) R.locals = true ∧ Nat.ble cells R.cells = true ∧ Nat.ble slots R.slots = true) (h : -2147483648 ≤ x ∧ x ≤ 2147483647 ∧ -2147483648 ≤ y ∧ y ≤ 2147483647) (k : RUN g nL p l e R s m args below meth c A cells slots Q ws (pc + 3) lv (vi (min x y) :: st)) : RUN g nL p l e R s m args below meth c A cells slots Q ws pc lv (vi y :: vi x :: st) :=
  fun ls H locs h1 h2 h3 h4 => by
  have k1 := k ls H locs h1 h2 h3 h4
  have he : zI (min x y) = (if zI y < zI x then zI y else zI x) := by
    rw [show min x y = if y < x then y else x by omega]
    by_cases q : y < x
    · rw [if_pos q, if_pos ((zI_lt ⟨h.2.2.1, h.2.2.2, h.1, h.2.1⟩).mpr q)]
    · rw [if_neg q, if_neg (fun z => q ((zI_lt ⟨h.2.2.1, h.2.2.2, h.1, h.2.1⟩).mp z))]
  rw [show vi (min x y) = .int (if zI y < zI x then zI y else zI x) from congrArg Value.int he] at k1
  exact va_mmin C.1 C.2.1 (by rw [C.2.2.1]; exact h1.1.symm) C.2.2.2.1 (C.2.2.2.2.1 _ hl) (C.2.2.2.2.1 _ qs_min) (C.2.2.2.2.1 _ qs_Math) (C.2.2.2.2.1 _ qc_min) (Nat.le_of_ble_eq_true hR.1) (Nat.le_of_ble_eq_true hR.2.1) (Nat.le_of_ble_eq_true hR.2.2.1) (Nat.le_of_ble_eq_true hR.2.2.2) hd k1
theorem r_mabs (C : CX g own cc nL ret A p s m args meth c) {x : Int} {index : Nat} (hl : Cond.methodLink own index Lib.Math.abs.name ∈ wsL_law) (hd : decode cc pc = .ok (.invokestatic index, 3)) (hR : Nat.ble 1 R.frames = true ∧ Nat.ble ((st.map fun v => v.category).sum + 13) R.locals = true ∧ Nat.ble cells R.cells = true ∧ Nat.ble slots R.slots = true) (h : -2147483648 ≤ x ∧ x ≤ 2147483647) (k : RUN g nL p l e R s m args below meth c A cells slots Q ws (pc + 3) lv (vi (if 0 ≤ x then x else -x) :: st)) : RUN g nL p l e R s m args below meth c A cells slots Q ws pc lv (vi x :: st) :=
  fun ls H locs h1 h2 h3 h4 => by
  have k1 := k ls H locs h1 h2 h3 h4
  have he : zI (if 0 ≤ x then x else -x) = (if 0 ≤ zI x then zI x else 0 - zI x) := by
    show _ = if zI 0 ≤ zI x then zI x else zI 0 - zI x
    by_cases q : 0 ≤ x
    · rw [if_pos q, if_pos ((zI_le (x := 0) ⟨by decide, by decide, h.1, h.2⟩).mpr q)]
    · rw [if_neg q, if_neg (fun z => q ((zI_le (x := 0) ⟨by decide, by decide, h.1, h.2⟩).mp z)), zI_sub, Int.zero_sub]
  rw [show vi (if 0 ≤ x then x else -x) = .int (if 0 ≤ zI x then zI x else 0 - zI x) from congrArg Value.int he] at k1
  exact va_mabs C.1 C.2.1 (by rw [C.2.2.1]; exact h1.1.symm) C.2.2.2.1 (C.2.2.2.2.1 _ hl) (C.2.2.2.2.1 _ qs_abs) (C.2.2.2.2.1 _ qs_Math) (C.2.2.2.2.1 _ qc_abs) (Nat.le_of_ble_eq_true hR.1) (Nat.le_of_ble_eq_true hR.2.1) (Nat.le_of_ble_eq_true hR.2.2.1) (Nat.le_of_ble_eq_true hR.2.2.2) hd k1
end
