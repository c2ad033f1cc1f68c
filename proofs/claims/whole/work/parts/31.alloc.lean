/-! ===== making: objects, arrays, constructors ===== -/
theorem qOi : Cond.instanceMethod objectInit ∈ wsL_law := in_r1 (List.mem_of_getElem? (i := 10) rfl)
theorem qOc : Cond.code objectInit ⟨#[0xb1]⟩ 1 none ∈ wsL_law := in_r1 (List.mem_of_getElem? (i := 11) rfl)
theorem zI_nn {n : Nat} (h : Nat.ble n 100000 = true) : ¬ zI (n : Int) < 0 ∧ (zI (n : Int)).toNatClampNeg = n := by
  have := Nat.le_of_ble_eq_true h
  refine ⟨?_, ?_⟩
  · rw [show (0 : Int32) = zI 0 from rfl, zI_lt (by omega)]; omega
  · rw [zI_cl (by omega)]; omega
section
variable {g : Gx} {own : String} {cc : ByteArray} {nL : Nat} {ret : Option FieldType} {p : Program} {l : Launch} {e : Env} {R : Room} {s : State} {m : MethodId} {args : Array Value} {below : List Frame} {meth : Method} {c : Code} {A : Nat → Prop} {cells slots : Nat} {Q : State → Prop} {ws : va_W} {pc : Nat} {lv : List (Nat × Value)} {st : List Value}
theorem r_objInit (C : CX g own cc nL ret A p s m args meth c) {idx a : Nat} (hl : Cond.methodLink own idx objectInit ∈ wsL_law) (hd : decode cc pc = .ok (.invokespecial idx, 3)) (hR : (Nat.ble 1 R.frames && Nat.ble ((st.map fun v => v.category).sum + 12) R.locals) = true) (k : RUN g nL p l e R s m args below meth c A cells slots Q ws (pc + 3) lv st) : RUN g nL p l e R s m args below meth c A cells slots Q ws pc lv (.ref a :: st) := fun ls H locs h1 h2 h3 h4 => by
  simp only [Bool.and_eq_true] at hR
  refine W.objInit C.1 C.2.1 C.2.2.2.1 (C.2.2.2.2.1 _ hl) (C.2.2.2.2.1 _ qOi) (C.2.2.2.2.1 _ qOc) rfl (h1.1.trans C.2.2.1.symm) rfl hd (Nat.le_of_ble_eq_true hR.1) ?_ (k ls H locs h1 h2 h3 h4)
  have := Nat.le_of_ble_eq_true hR.2
  show 2 * 0 + (st.map fun v => v.category).sum + 12 ≤ R.locals
  omega
theorem r_newi (C : CX g own cc nL ret A p s m args meth c) {n : Int} (N' : Nat) (harr : Cond.arrayClass .int ∈ wsL_law) (hd : decode cc pc = .ok (.newarray .int, 2)) (hn : n = N') (hb : Nat.ble N' 100000 = true) (hcs : (Nat.ble (cells + 1) R.cells && Nat.ble (slots + N') R.slots) = true) (k : ∀ q : Nat, RUN g nL p l e R s m args below meth c A (cells + 1) (slots + N') Q (ws ++ [(q, aI g N' (fun _ => 0))]) (pc + 2) lv (.ref q :: st)) : RUN g nL p l e R s m args below meth c A cells slots Q ws pc lv (vi n :: st) := fun ls H locs h1 h2 h3 h4 => by
  simp only [Bool.and_eq_true] at hcs
  subst hn
  have hN := Nat.le_of_ble_eq_true hb
  refine va_newa (atype := .int) (ty := .int) (N' := N') (a0 := (N', .inl (zR (fun _ => 0)))) (tys := tyG g) C.1 C.2.1 (C.2.2.2.2.1 _ harr) rfl C.2.2.2.2.2.1 h2 h3 h4 C.2.2.2.2.2.2.2.2.2.1 (fun cA => rfl) (zI_nn hb).1 (zI_nn hb).2 ?_ (Nat.le_of_ble_eq_true hcs.1) (Nat.le_of_ble_eq_true hcs.2) hd (fun q cA H1 hK hP hD hS => ?_)
  · show N' * 4 ≤ 536870912
    omega
  · have e1 : cA = g.2.2.1 := Option.some.inj ((hK.2 4 (cA, .int) rfl).2.symm.trans (hK.2 1 (g.2.2.1, .int) rfl).2)
    rw [e1] at hP hD
    exact k q ls H1 locs h1 hP hD hS
theorem r_newc (C : CX g own cc nL ret A p s m args meth c) {n : Int} (N' : Nat) (harr : Cond.arrayClass .char ∈ wsL_law) (hd : decode cc pc = .ok (.newarray .char, 2)) (hn : n = N') (hb : Nat.ble N' 100000 = true) (hcs : (Nat.ble (cells + 1) R.cells && Nat.ble (slots + N') R.slots) = true) (k : ∀ q : Nat, RUN g nL p l e R s m args below meth c A (cells + 1) (slots + N') Q (ws ++ [(q, aC g N' (fun _ => 0))]) (pc + 2) lv (.ref q :: st)) : RUN g nL p l e R s m args below meth c A cells slots Q ws pc lv (vi n :: st) := fun ls H locs h1 h2 h3 h4 => by
  simp only [Bool.and_eq_true] at hcs
  subst hn
  have hN := Nat.le_of_ble_eq_true hb
  refine va_newa (atype := .char) (ty := .char) (N' := N') (a0 := (N', .inl (zR (fun _ => 0)))) (tys := tyG g) C.1 C.2.1 (C.2.2.2.2.1 _ harr) rfl C.2.2.2.2.2.1 h2 h3 h4 C.2.2.2.2.2.2.2.2.2.1 (fun cA => rfl) (zI_nn hb).1 (zI_nn hb).2 ?_ (Nat.le_of_ble_eq_true hcs.1) (Nat.le_of_ble_eq_true hcs.2) hd (fun q cA H1 hK hP hD hS => ?_)
  · show N' * 2 ≤ 536870912
    omega
  · have e1 : cA = g.2.1 := Option.some.inj ((hK.2 4 (cA, .char) rfl).2.symm.trans (hK.2 0 (g.2.1, .char) rfl).2)
    rw [e1] at hP hD
    exact k q ls H1 locs h1 hP hD hS
theorem r_newz (C : CX g own cc nL ret A p s m args meth c) {n : Int} (N' : Nat) (harr : Cond.arrayClass .boolean ∈ wsL_law) (hd : decode cc pc = .ok (.newarray .boolean, 2)) (hn : n = N') (hb : Nat.ble N' 100000 = true) (hcs : (Nat.ble (cells + 1) R.cells && Nat.ble (slots + N') R.slots) = true) (k : ∀ q : Nat, RUN g nL p l e R s m args below meth c A (cells + 1) (slots + N') Q (ws ++ [(q, aZ g N' (fun _ => 0))]) (pc + 2) lv (.ref q :: st)) : RUN g nL p l e R s m args below meth c A cells slots Q ws pc lv (vi n :: st) := fun ls H locs h1 h2 h3 h4 => by
  simp only [Bool.and_eq_true] at hcs
  subst hn
  have hN := Nat.le_of_ble_eq_true hb
  refine va_newa (atype := .boolean) (ty := .boolean) (N' := N') (a0 := (N', .inl (zR (fun _ => 0)))) (tys := tyG g) C.1 C.2.1 (C.2.2.2.2.1 _ harr) rfl C.2.2.2.2.2.1 h2 h3 h4 C.2.2.2.2.2.2.2.2.2.1 (fun cA => rfl) (zI_nn hb).1 (zI_nn hb).2 ?_ (Nat.le_of_ble_eq_true hcs.1) (Nat.le_of_ble_eq_true hcs.2) hd (fun q cA H1 hK hP hD hS => ?_)
  · show N' * 1 ≤ 536870912
    omega
  · have e1 : cA = g.2.2.2.1 := Option.some.inj ((hK.2 4 (cA, .boolean) rfl).2.symm.trans (hK.2 2 (g.2.2.2.1, .boolean) rfl).2)
    rw [e1] at hP hD
    exact k q ls H1 locs h1 hP hD hS
theorem r_newq (C : CX g own cc nL ret A p s m args meth c) {n : Int} (N' : Nat) {idx : Nat} (hAO : va_AO RX7 s) (hl : Cond.classLink own idx RX7 ∈ wsL_law) (hd : decode cc pc = .ok (.anewarray idx, 3)) (hn : n = N') (hb : Nat.ble N' 100000 = true) (hcs : (Nat.ble (cells + 1) R.cells && Nat.ble (slots + N') R.slots) = true) (k : ∀ q : Nat, RUN g nL p l e R s m args below meth c A (cells + 1) (slots + N') Q (ws ++ [(q, aQ g N' (fun _ => none))]) (pc + 3) lv (.ref q :: st)) : RUN g nL p l e R s m args below meth c A cells slots Q ws pc lv (vi n :: st) := fun ls H locs h1 h2 h3 h4 => by
  simp only [Bool.and_eq_true] at hcs
  subst hn
  have hN := Nat.le_of_ble_eq_true hb
  refine va_newq (N' := N') (tys := tyG g) C.1 C.2.1 C.2.2.2.1 (C.2.2.2.2.1 _ hl) hAO C.2.2.2.2.2.1 h2 h3 h4 C.2.2.2.2.2.2.2.2.2.1 (zI_nn hb).1 (zI_nn hb).2 (by omega) (Nat.le_of_ble_eq_true hcs.1) (Nat.le_of_ble_eq_true hcs.2) hd (fun q cA H1 hK hP hD hS => ?_)
  obtain ⟨_, _, _, _, _, f1⟩ := (hK.2 4 (cA, .object RX7) rfl).2
  obtain ⟨_, _, _, _, _, f2⟩ := (hK.2 3 (g.2.2.2.2, .object RX7) rfl).2
  have e1 : cA = g.2.2.2.2 := Option.some.inj (f1.symm.trans f2)
  rw [e1] at hP hD
  exact k q ls H1 locs h1 hP hD hS
theorem r_new (C : CX g own cc nL ret A p s m args meth c) {C' : String} {T : u_T} {N idx : Nat} (ci : Nat) (fs : List Value) (hin : ∀ w ∈ u_ws C' T N, w ∈ wsL_law) (ty0 : Nat → FieldType) (hty : ∀ k, k < N → parseFieldDescriptor (T k).2.2.1 = some (ty0 k)) (hc : vwCl[ci]? = some (C', T, N)) (hfs : ∀ j, j < N → defaultValue (ty0 j) = vp_V fs j) (hl : Cond.classLink own idx C' ∈ wsL_law) (hi : Cond.instantiable C' N ∈ wsL_law) (hn : Cond.initialized C' ∈ wsL_law) (hd : decode cc pc = .ok (.new idx, 3)) (hcs : (Nat.ble (cells + 1) R.cells && Nat.ble (slots + N) R.slots) = true) (k : ∀ q : Nat, RUN g nL p l e R s m args below meth c A (cells + 1) (slots + N) Q (ws ++ [(q, oB ci fs)]) (pc + 3) lv (.ref q :: st)) : RUN g nL p l e R s m args below meth c A cells slots Q ws pc lv st := fun ls H locs h1 h2 h3 h4 => by
  simp only [Bool.and_eq_true] at hcs
  exact va_new C.1 C.2.1 C.2.2.2.2.1 hin ty0 hty C.2.2.2.1 (C.2.2.2.2.1 _ hl) (C.2.2.2.2.1 _ hi) (C.2.2.2.2.1 _ hn) C.2.2.2.2.2.1 h2 h3 h4 C.2.2.2.2.2.2.2.2.2.1 hc hfs (Nat.le_of_ble_eq_true hcs.1) (Nat.le_of_ble_eq_true hcs.2) hd (fun q H1 a b d => k q ls H1 locs h1 a b d)
theorem r_aastore (C : CX g own cc nL ret A p s m args meth c) {a n v : Nat} {i : Int} {vs : List Value} {f : Nat → Option Nat} {ws' : va_W} (hd : decode cc pc = .ok (.aastore, 1)) (q0 qk : Nat) (hq : ws[q0]? = some (a, aQ g n f)) (hv : ws[qk]? = some (v, oB 6 vs)) (hn : Nat.ble n 1000000 = true) (h : 0 ≤ i ∧ i < n) (hw : ws.set q0 (a, aQ g n (va_up f (zI i).toNatClampNeg (some v))) = ws') (k : RUN g nL p l e R s m args below meth c A cells slots Q ws' (pc + 1) lv st) : RUN g nL p l e R s m args below meth c A cells slots Q ws pc lv (.ref v :: vi i :: .ref a :: st) := fun ls H locs h1 h2 h3 h4 => by
  subst hw
  exact va_astq (r := (RX7, TX7, 8)) C.1 C.2.1 C.2.2.2.2.2.1 h2 h3 h4 q0 3 qk 6 hq rfl hv rfl (zI_in hn h) hd (fun H1 locs1 a b d => k ls H1 locs1 h1 a b d)
theorem r_perm {ws' : va_W} (is : List Nat) (hC : is.map (fun i => ws[i]?) = ws'.map some) (hnd : va_nd is = true) (k : RUN g nL p l e R s m args below meth c A cells slots Q ws' pc lv st) : RUN g nL p l e R s m args below meth c A cells slots Q ws pc lv st := fun ls H locs h1 h2 h3 h4 => by
  refine k ls H locs h1 (fun j q hq => ?_) (h3.sub is hnd hC) h4
  have hl : j < is.length := by
    have : is.length = ws'.length := by simpa using congrArg List.length hC
    rw [this]; exact (List.getElem?_eq_some_iff.mp hq).1
  obtain ⟨q', h5, h6⟩ := map_some_get hC (List.getElem?_eq_getElem hl)
  rw [hq] at h5
  cases h5
  exact h2 _ _ h6
end
theorem app_get {α : Type} {a b : List α} {i : Nat} {x : α} (h : (a ++ b)[i]? = some x) : (i < a.length ∧ a[i]? = some x) ∨ (a.length ≤ i ∧ b[i - a.length]? = some x) := by
  by_cases hl : i < a.length
  · rw [List.getElem?_append_left hl] at h
    exact Or.inl ⟨hl, h⟩
  · rw [List.getElem?_append_right (by omega)] at h
    exact Or.inr ⟨by omega, h⟩
theorem app_l {α : Type} {a : List α} (b : List α) {i : Nat} {x : α} (h : a[i]? = some x) : (a ++ b)[i]? = some x := by
  rw [List.getElem?_append_left (List.getElem?_eq_some_iff.mp h).1]
  exact h
theorem app_r {α : Type} (a : List α) {b : List α} {i : Nat} {x : α} (h : b[i]? = some x) : (a ++ b)[a.length + i]? = some x := by
  rw [List.getElem?_append_right (Nat.le_add_right _ _), Nat.add_sub_cancel_left]
  exact h
theorem grow_P {A0 : Nat → Prop} {D : va_G} {cl : List vw_C} {ws0 wc w1 : va_W} {H H1 : Heap} (hP : va_P D cl (ws0 ++ wc) H) (hD : va_D A0 (ws0 ++ wc)) (hk : ∀ q : Nat, q < H.size → ¬ va_A wc H.size q → H1[q]? = H[q]?) (hA : ∀ q, va_A wc H.size q → A0 q) (hP1 : va_P D cl w1 H1) (hD1 : va_D (va_A wc H.size) w1) : va_P D cl (ws0 ++ w1) H1 ∧ va_D A0 (ws0 ++ w1) := by
  have sep : ∀ (k : Nat) (q : Nat × va_E), ws0[k]? = some q → ¬ va_A wc H.size q.1 := by
    intro k q hq
    rintro (⟨j, e, hj⟩ | hge)
    · have h9 := hD.1 _ _ _ _ (app_l wc hq) (app_r ws0 hj) rfl
      have := (List.getElem?_eq_some_iff.mp hq).1
      omega
    · have := va_at.lt (hP k q (app_l wc hq))
      omega
  refine ⟨va_P.app (fun k q hq => va_at.kept (hP k q (app_l wc hq)) (hk _ (va_at.lt (hP k q (app_l wc hq))) (sep k q hq))) hP1, fun i j p q hi hj hpq => ?_, fun k q hq => ?_⟩
  · rcases app_get hi with ⟨i1, i2⟩ | ⟨i1, i2⟩ <;> rcases app_get hj with ⟨j1, j2⟩ | ⟨j1, j2⟩
    · exact hD.1 i j p q (app_l wc i2) (app_l wc j2) hpq
    · exact absurd (hpq ▸ hD1.2 _ _ j2) (sep i p i2)
    · exact absurd (hpq ▸ hD1.2 _ _ i2) (sep j q j2)
    · have := hD1.1 _ _ p q i2 j2 hpq
      omega
  · rcases app_get hq with ⟨i1, i2⟩ | ⟨i1, i2⟩
    · exact hD.2 k q (app_l wc i2)
    · exact hA _ (hD1.2 _ _ i2)
def PRo (g : Gx) (av : List Value) (ws : va_W) (sz : Nat) : Array Value → State → Prop := fun a U => PR g av ws sz a U ∧ va_AO RX7 U
theorem PRo.blind {g : Gx} {av : List Value} {ws : va_W} {sz : Nat} : FrameBlind (PRo g av ws sz) := fun a U f mk h => ⟨PR.blind a U f mk h.1, va_AO.moved (u := U) (U := U.calling f mk a) (Vm.Alike.refl U.vm) h.2⟩
theorem meetO {g : Gx} {l : Launch} {y : MethodName} {cc : ByteArray} {nL : Nat} {ret : Option FieldType} {rm : Room} {av : List Value} {ws : va_W} {sz mc ms : Nat} {Qc : Array Value → State → Outcome → State → Prop} {own : String} (how : y.cls = own) (hy : plainFor y = true) (hav : Nat.ble (lg_sl av).length nL = true)
    (body : ∀ (p : Program) (e : Env) (s : State) (m : MethodId) (args : Array Value) (below : List Frame) (meth : Method) (c : Code), CX g own cc nL ret (va_A ws sz) p s m args meth c → (meth.name = y.name) → va_AO RX7 s → RUN g nL p l e rm s m args below meth c (va_A ws sz) 0 0 (MQ below Qc args s mc ms (va_A ws sz)) ws 0 (lv_args 0 av) []) : Met l y (.code y cc nL ret :: wsL_law) rm (PRo g av ws sz) Qc mc ms (va_A ws sz) := by
  refine va_MetF (cc := cc) (maxL := nL) (ret := ret) hy rfl ?_
  intro p e s m args below meth c s1 B hml hvo
  obtain ⟨hv, hao⟩ := hvo
  have hC := CX.of B hml hv
  have hnm : meth.name = y.name := (name_of_methodNamed B.named B.method).1
  obtain ⟨rfl, hsz, hP, hK, hD0, hN, hZ⟩ := hv
  have hl := lv_entry av (n := nL) (Nat.le_of_ble_eq_true hav)
  rw [lg_entry_eq]
  exact body p e s m _ below meth c (how ▸ hC) hnm hao _ s.heap [] hl hP (hD0.self (sz := sz)) va_S.rf
theorem e_vM {g : Gx} {own : String} {cc : ByteArray} {nL : Nat} {p : Program} {l : Launch} {e : Env} {R : Room} {s : State} {m : MethodId} {args : Array Value} {below : List Frame} {meth : Method} {c : Code} {wc : va_W} {sz : Nat} {ws : va_W} {pc : Nat} {lv : List (Nat × Value)} {S : Type} {Wf : S → va_W} {cells slots mc ms : Nat} {post : S → Prop} (C : CX g own cc nL none (va_A wc sz) p s m args meth c) (u : S) (hd : decode cc pc = .ok (.return_, 1)) (hp : post u) (hw : Wf u = ws) (hm : cells = mc) (hs : slots = ms) : RUN g nL p l e R s m args below meth c (va_A wc sz) cells slots (MQ below (PV g post Wf wc sz) args s mc ms (va_A wc sz)) ws pc lv [] := fun ls H locs h1 h2 h3 h4 => by
  subst hw
  subst hm
  subst hs
  exact W.vret C.1 C.2.1 C.2.2.2.2.2.2.2.1 (fun t ht hW => ⟨⟨u, rfl, hp, by rw [ht]; exact h2, h3⟩, h4.F ht⟩) h4.2.2 hd C.2.2.2.2.2.2.2.2.1
def KI (own : String) (idx : Nat) (host : String) (y : MethodName) (bytes : ByteArray) (maxL : Nat) : Prop :=
  (own, idx, y, host) ∈ nwM ∧ Cond.instanceMethod y ∈ wsL_law ∧ Cond.initialized y.cls ∈ wsL_law ∧ Cond.code y bytes maxL none ∈ wsL_law ∧ y.name = "<init>" ∧ (y.cls ≠ "java/lang/invoke/MethodHandle" ∧ y.cls ≠ "java/lang/invoke/VarHandle" ∧ (parseMethodDescriptor y.desc).map (fun d => d.parameters.length) = some 0)
def KJ (own : String) (idx : Nat) (y : MethodName) (bytes : ByteArray) (maxL : Nat) : Prop :=
  Cond.methodLink own idx y ∈ wsL_law ∧ Cond.instanceMethod y ∈ wsL_law ∧ Cond.initialized y.cls ∈ wsL_law ∧ Cond.code y bytes maxL none ∈ wsL_law ∧ y.name = "<init>" ∧ (y.cls ≠ "java/lang/invoke/MethodHandle" ∧ y.cls ≠ "java/lang/invoke/VarHandle" ∧ (parseMethodDescriptor y.desc).map (fun d => d.parameters.length) = some 0)
def RMI (rm R : Room) (maxL mc ms : Nat) (rest : List Value) : Bool := Nat.ble (rm.frames + 1) R.frames && Nat.ble (8 + (maxL + 11) + rm.locals) R.locals && Nat.beq rm.cells mc && Nat.beq rm.slots ms && Nat.ble ((rest.map fun v => v.category).sum) 8
section
variable {g : Gx} {own : String} {cc : ByteArray} {nL : Nat} {ret : Option FieldType} {p : Program} {l : Launch} {e : Env} {R : Room} {s : State} {m : MethodId} {args : Array Value} {below : List Frame} {meth : Method} {c : Code} {A : Nat → Prop} {cells slots : Nat} {Q : State → Prop} {ws : va_W} {pc : Nat} {lv : List (Nat × Value)} {st : List Value}
theorem k_IN {y : MethodName} {host : String} {idx maxL b mc ms : Nat} {bytes : ByteArray} {rm : Room} {S : Type} {post : S → Prop} {Wf : S → va_W} {E : va_E} {rest : List Value} {ws0 : va_W} (C : CX g own cc nL ret A p s m args meth c) (hAO : va_AO RX7 s) (kw : KI own idx host y bytes maxL) (M : ∀ sz, Met l y (.code y bytes maxL none :: wsL_law) rm (PRo g [.ref b] [(b, E)] sz) (PV g post Wf [(b, E)] sz) mc ms (va_A [(b, E)] sz)) (hd : decode cc pc = .ok (.invokespecial idx, 3)) (hR : RMI rm R maxL mc ms rest = true) (hcs : (Nat.ble (cells + mc) R.cells && Nat.ble (slots + ms) R.slots) = true) (hw : ws = ws0 ++ [(b, E)]) (k : ∀ u : S, post u → RUN g nL p l e R s m args below meth c A (cells + mc) (slots + ms) Q (ws0 ++ Wf u) (pc + 3) lv rest) : RUN g nL p l e R s m args below meth c A cells slots Q ws pc lv (.ref b :: rest) := fun ls H locs h1 h2 h3 h4 => by
  subst hw
  simp only [Bool.and_eq_true] at hcs
  simp only [RMI, Bool.and_eq_true] at hR
  obtain ⟨⟨⟨⟨hR1, hR2⟩, hR3⟩, hR4⟩, hR5⟩ := hR
  have hC : [ws0.length].map (fun i => (ws0 ++ [(b, E)])[i]?) = [(b, E)].map some := by
    show [(ws0 ++ [(b, E)])[ws0.length]?] = [some (b, E)]
    rw [List.getElem?_append_right (Nat.le_refl _), Nat.sub_self]
    rfl
  obtain ⟨hF, hpre⟩ := pre_call (av := [.ref b]) C h2 h3 h4 [ws0.length] hC rfl
  have hr : va_Run p l e R s m args below meth c H locs cells slots mc ms (F0 m pc ls (.ref b :: rest)) rest (PV g post Wf [(b, E)] H.size [Value.ref b].toArray) (va_A [(b, E)] H.size) := va_runIN (host := host) ⟨C.1, C.2.1, C.2.2.1, C.2.2.2.1, C.2.2.2.2.1⟩ (M H.size) ⟨va_cnB 0 C.2.2.2.2.1 (good_c kw.2.2.2.1) rfl (Nat.eq_of_beq_eq_true hR3) (Nat.eq_of_beq_eq_true hR4) (C.2.2.2.2.2.2.1.2 _ kw.1) (C.2.2.2.2.1 _ kw.2.2.1) kw.2.2.2.2.2 ⟨Nat.le_of_ble_eq_true hR1, Nat.le_of_ble_eq_true hR2⟩, kw.2.2.2.2.1, C.2.2.2.2.1 _ kw.2.1⟩ (As := []) ⟨PRo.blind, fun U hU hW => ⟨hpre U hU hW, va_AO.moved hW.alike hAO⟩⟩ rfl rfl h1.1 rfl (lv_room (Nat.le_of_ble_eq_true hR5)) hd ⟨Nat.le_of_ble_eq_true hcs.1, Nat.le_of_ble_eq_true hcs.2⟩
  refine va_callv hr h4 (fun q _ h => hF q h) hF (fun u t H1 locs1 ht hvm hpo hB hz hk hS => ?_)
  obtain ⟨hP1, hD1⟩ := hB
  rw [ht] at hP1
  obtain ⟨h5, h6⟩ := grow_P h2 h3 hk hF hP1 hD1
  exact k u hpo ls H1 locs1 h1 h5 h6 hS
theorem k_IJ {y : MethodName} {host : String} {idx maxL b mc ms : Nat} {bytes : ByteArray} {rm : Room} {S : Type} {post : S → Prop} {Wf : S → va_W} {E : va_E} {rest : List Value} {ws0 : va_W} (C : CX g own cc nL ret A p s m args meth c) (hAO : va_AO RX7 s) (kw : KJ own idx y bytes maxL) (M : ∀ sz, Met l y (.code y bytes maxL none :: wsL_law) rm (PRo g [.ref b] [(b, E)] sz) (PV g post Wf [(b, E)] sz) mc ms (va_A [(b, E)] sz)) (hd : decode cc pc = .ok (.invokespecial idx, 3)) (hR : RMI rm R maxL mc ms rest = true) (hcs : (Nat.ble (cells + mc) R.cells && Nat.ble (slots + ms) R.slots) = true) (hw : ws = ws0 ++ [(b, E)]) (k : ∀ u : S, post u → RUN g nL p l e R s m args below meth c A (cells + mc) (slots + ms) Q (ws0 ++ Wf u) (pc + 3) lv rest) : RUN g nL p l e R s m args below meth c A cells slots Q ws pc lv (.ref b :: rest) := fun ls H locs h1 h2 h3 h4 => by
  subst hw
  simp only [Bool.and_eq_true] at hcs
  simp only [RMI, Bool.and_eq_true] at hR
  obtain ⟨⟨⟨⟨hR1, hR2⟩, hR3⟩, hR4⟩, hR5⟩ := hR
  have hC : [ws0.length].map (fun i => (ws0 ++ [(b, E)])[i]?) = [(b, E)].map some := by
    show [(ws0 ++ [(b, E)])[ws0.length]?] = [some (b, E)]
    rw [List.getElem?_append_right (Nat.le_refl _), Nat.sub_self]
    rfl
  obtain ⟨hF, hpre⟩ := pre_call (av := [.ref b]) C h2 h3 h4 [ws0.length] hC rfl
  have hr : va_Run p l e R s m args below meth c H locs cells slots mc ms (F0 m pc ls (.ref b :: rest)) rest (PV g post Wf [(b, E)] H.size [Value.ref b].toArray) (va_A [(b, E)] H.size) := va_runI ⟨C.1, C.2.1, C.2.2.1, C.2.2.2.1, C.2.2.2.2.1⟩ (M H.size) (cwI 0 C.2.2.2.2.1 (good_c kw.2.2.2.1) rfl (Nat.eq_of_beq_eq_true hR3) (Nat.eq_of_beq_eq_true hR4) (C.2.2.2.2.1 _ kw.2.2.1) (C.2.2.2.2.1 _ kw.1) (C.2.2.2.2.1 _ kw.2.1) kw.2.2.2.2.1 kw.2.2.2.2.2 ⟨Nat.le_of_ble_eq_true hR1, Nat.le_of_ble_eq_true hR2⟩) (As := []) ⟨PRo.blind, fun U hU hW => ⟨hpre U hU hW, va_AO.moved hW.alike hAO⟩⟩ rfl rfl h1.1 rfl (lv_room (Nat.le_of_ble_eq_true hR5)) hd ⟨Nat.le_of_ble_eq_true hcs.1, Nat.le_of_ble_eq_true hcs.2⟩
  refine va_callv hr h4 (fun q _ h => hF q h) hF (fun u t H1 locs1 ht hvm hpo hB hz hk hS => ?_)
  obtain ⟨hP1, hD1⟩ := hB
  rw [ht] at hP1
  obtain ⟨h5, h6⟩ := grow_P h2 h3 hk hF hP1 hD1
  exact k u hpo ls H1 locs1 h1 h5 h6 hS
end
