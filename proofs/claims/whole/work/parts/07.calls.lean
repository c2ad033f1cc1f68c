/-! ===== calls: the words of a call's site, the callee's contract, what comes back ===== -/
def KV (own : String) (idx : Nat) (C' : String) (y : MethodName) (bytes : ByteArray) (maxL : Nat) (ret : Option FieldType) (n : Nat) : Prop :=
  Cond.methodLink own idx y ∈ wsL_law ∧ Cond.instanceMethod y ∈ wsL_law ∧ Cond.selects C' y y ∈ wsL_law ∧ Cond.initialized C' ∈ wsL_law ∧ Cond.code y bytes maxL ret ∈ wsL_law ∧ (y.cls = C' ∧ y.cls ≠ "java/lang/invoke/MethodHandle" ∧ y.cls ≠ "java/lang/invoke/VarHandle" ∧ (parseMethodDescriptor y.desc).map (fun d => d.parameters.length) = some n)
def KS (own : String) (idx : Nat) (y : MethodName) (bytes : ByteArray) (maxL : Nat) (ret : Option FieldType) (n : Nat) : Prop :=
  Cond.methodLink own idx y ∈ wsL_law ∧ Cond.static y ∈ wsL_law ∧ Cond.initialized y.cls ∈ wsL_law ∧ Cond.code y bytes maxL ret ∈ wsL_law ∧ (y.cls ≠ "java/lang/invoke/MethodHandle" ∧ y.cls ≠ "java/lang/invoke/VarHandle" ∧ (parseMethodDescriptor y.desc).map (fun d => d.parameters.length) = some n)
def KN (own : String) (idx : Nat) (host : String) (y : MethodName) (bytes : ByteArray) (maxL : Nat) (ret : Option FieldType) (n : Nat) : Prop :=
  (own, idx, y, host) ∈ nwM ∧ Cond.static y ∈ wsL_law ∧ Cond.initialized y.cls ∈ wsL_law ∧ Cond.code y bytes maxL ret ∈ wsL_law ∧ (y.cls ≠ "java/lang/invoke/MethodHandle" ∧ y.cls ≠ "java/lang/invoke/VarHandle" ∧ (parseMethodDescriptor y.desc).map (fun d => d.parameters.length) = some n)
theorem wsL_all : ∀ w ∈ wsL_law, (w.onTables && w.keeps) = true ∨ ∃ ty, w = .arrayClass ty := fun w h => good_of_word (List.all_eq_true.mp wsL_good w h)
theorem good_c {y : MethodName} {bytes : ByteArray} {maxL : Nat} {ret : Option FieldType} (h : Cond.code y bytes maxL ret ∈ wsL_law) : GoodIn wsL_law (Cond.code y bytes maxL ret :: wsL_law) := fun w hw => by
  rcases List.mem_cons.mp hw with h1 | h1
  · exact h1 ▸ ⟨h, wsL_all _ h⟩
  · exact ⟨h1, wsL_all _ h1⟩
theorem good_V {own C' : String} {idx : Nat} {y : MethodName} {bytes : ByteArray} {maxL n : Nat} {ret : Option FieldType} (h : KV own idx C' y bytes maxL ret n) : GoodIn wsL_law (wsV own idx C' y (Cond.code y bytes maxL ret :: wsL_law)) := fun w hw => by
  rcases List.mem_append.mp hw with h1 | h1
  · simp only [List.mem_cons, List.not_mem_nil, or_false] at h1
    rcases h1 with h1 | h1 | h1 | h1
    · exact h1 ▸ ⟨h.1, wsL_all _ h.1⟩
    · exact h1 ▸ ⟨h.2.1, wsL_all _ h.2.1⟩
    · exact h1 ▸ ⟨h.2.2.1, wsL_all _ h.2.2.1⟩
    · exact h1 ▸ ⟨h.2.2.2.1, wsL_all _ h.2.2.2.1⟩
  · exact good_c h.2.2.2.2.1 w h1
theorem good_S {own : String} {idx : Nat} {y : MethodName} {bytes : ByteArray} {maxL n : Nat} {ret : Option FieldType} (h : KS own idx y bytes maxL ret n) : GoodIn wsL_law (va_wsS own idx y (Cond.code y bytes maxL ret :: wsL_law)) := fun w hw => by
  rcases List.mem_append.mp hw with h1 | h1
  · simp only [List.mem_cons, List.not_mem_nil, or_false] at h1
    rcases h1 with h1 | h1 | h1
    · exact h1 ▸ ⟨h.1, wsL_all _ h.1⟩
    · exact h1 ▸ ⟨h.2.1, wsL_all _ h.2.1⟩
    · exact h1 ▸ ⟨h.2.2.1, wsL_all _ h.2.2.1⟩
  · exact good_c h.2.2.2.1 w h1
/-- the room that a callee takes, in the caller's -/
def RM (rm R : Room) (maxL : Nat) (rest : List Value) : Bool := Nat.ble (rm.frames + 1) R.frames && Nat.ble (8 + (maxL + 11) + rm.locals) R.locals && Nat.beq rm.cells 0 && Nat.beq rm.slots 0 && Nat.ble ((rest.map fun v => v.category).sum) 8
section
variable {g : Gx} {own : String} {cc : ByteArray} {nL : Nat} {ret : Option FieldType} {p : Program} {l : Launch} {e : Env} {R : Room} {s : State} {m : MethodId} {args : Array Value} {below : List Frame} {meth : Method} {c : Code} {A : Nat → Prop} {cells slots : Nat} {Q : State → Prop} {ws : va_W} {pc : Nat} {lv : List (Nat × Value)} {rest : List Value}
theorem pre_call {H : Heap} {locs : List Loc} {wc : va_W} {av : List Value} (C : CX g own cc nL ret A p s m args meth c) (h2 : va_P g.1 vwCl ws H) (h3 : va_D A ws) (h4 : va_S A s.heap H locs) (isC : List Nat) (hC : isC.map (fun i => ws[i]?) = wc.map some) (hnd : va_nd isC = true) :
    (∀ q, va_A wc H.size q → A q) ∧ ∀ U : State, U.heap = H → s.WarmedH U.vm → PR g av wc H.size av.toArray U := by
  have hF := va_free h3 h4 C.2.2.2.2.2.2.2.2.2.1 isC hC
  refine ⟨hF, fun U hU hW => ⟨rfl, by rw [hU], ?_, va_K.moved hW.alike C.2.2.2.2.2.1, (h3.sub isC hnd hC).weaken (fun _ _ _ _ => trivial), Nst.warm hW C.2.2.2.2.2.2.1, ?_⟩⟩
  · rw [hU]
    intro k q hq
    have hl : k < isC.length := by
      have : isC.length = wc.length := by simpa using congrArg List.length hC
      rw [this]; exact (List.getElem?_eq_some_iff.mp hq).1
    obtain ⟨q', h5, h6⟩ := map_some_get hC (List.getElem?_eq_getElem hl)
    rw [hq] at h5
    cases h5
    exact h2 _ _ h6
  · rw [hU]
    exact ((C.2.2.2.2.2.2.2.2.2.2.kept (fun a h5 h6 => h4.2.1 a h5 h6)).narrow hF).moved hW.alike
theorem aft_i {S : Type} {post : Int → S → Prop} {Wf : S → va_W} {wc : va_W} {ws' : S → va_W} {st0 : List Value} {a : Array Value} {ls : Array Slot} {H : Heap} {locs : List Loc} (h1 : lv_has ls nL lv) (h2 : va_P g.1 vwCl ws H) (h3 : va_D A ws) (h4 : va_S A s.heap H locs) (isC : List Nat) (hC : isC.map (fun i => ws[i]?) = wc.map some) (hF : ∀ q, va_A wc H.size q → A q)
    (hr : va_Run p l e R s m args below meth c H locs cells slots 0 0 (F0 m pc ls st0) rest (PI g post Wf wc H.size a) (va_A wc H.size)) (ha : ∀ u, (Wf u).map Prod.fst = wc.map Prod.fst) (hw : ∀ u, wput ws isC (Wf u) = ws' u)
    (k : ∀ (x : Int) (u : S), post x u → RUN g nL p l e R s m args below meth c A cells slots Q (ws' u) (pc + 3) lv (vi x :: rest)) : W p l e R s m args below meth c H locs cells slots Q (F0 m pc ls st0) := by
  refine va_calli hr h4 (fun q _ h => hF q h) hF (fun r u t H1 locs1 ht hvm hpo hB hz hk hS => ?_)
  obtain ⟨x, rfl, hpx⟩ := hpo
  obtain ⟨hP1, -⟩ := hB
  rw [ht] at hP1
  obtain ⟨h5, h6⟩ := wput_P h2 h3 hC (ha u) hk hP1
  rw [hw u] at h5 h6
  exact k x u hpx ls H1 locs1 h1 h5 h6 hS
theorem aft_v {S : Type} {post : S → Prop} {Wf : S → va_W} {wc : va_W} {ws' : S → va_W} {st0 : List Value} {a : Array Value} {ls : Array Slot} {H : Heap} {locs : List Loc} (h1 : lv_has ls nL lv) (h2 : va_P g.1 vwCl ws H) (h3 : va_D A ws) (h4 : va_S A s.heap H locs) (isC : List Nat) (hC : isC.map (fun i => ws[i]?) = wc.map some) (hF : ∀ q, va_A wc H.size q → A q)
    (hr : va_Run p l e R s m args below meth c H locs cells slots 0 0 (F0 m pc ls st0) rest (PV g post Wf wc H.size a) (va_A wc H.size)) (ha : ∀ u, (Wf u).map Prod.fst = wc.map Prod.fst) (hw : ∀ u, wput ws isC (Wf u) = ws' u)
    (k : ∀ (u : S), post u → RUN g nL p l e R s m args below meth c A cells slots Q (ws' u) (pc + 3) lv rest) : W p l e R s m args below meth c H locs cells slots Q (F0 m pc ls st0) := by
  refine va_callv hr h4 (fun q _ h => hF q h) hF (fun u t H1 locs1 ht hvm hpo hB hz hk hS => ?_)
  obtain ⟨hP1, -⟩ := hB
  rw [ht] at hP1
  obtain ⟨h5, h6⟩ := wput_P h2 h3 hC (ha u) hk hP1
  rw [hw u] at h5 h6
  exact k u hpo ls H1 locs1 h1 h5 h6 hS
theorem aft_a {S : Type} {b : Nat} {post : S → Prop} {Wf : S → va_W} {wc : va_W} {ws' : S → va_W} {st0 : List Value} {a : Array Value} {ls : Array Slot} {H : Heap} {locs : List Loc} (h1 : lv_has ls nL lv) (h2 : va_P g.1 vwCl ws H) (h3 : va_D A ws) (h4 : va_S A s.heap H locs) (isC : List Nat) (hC : isC.map (fun i => ws[i]?) = wc.map some) (hF : ∀ q, va_A wc H.size q → A q)
    (hr : va_Run p l e R s m args below meth c H locs cells slots 0 0 (F0 m pc ls st0) rest (PA g b post Wf wc H.size a) (va_A wc H.size)) (ha : ∀ u, (Wf u).map Prod.fst = wc.map Prod.fst) (hw : ∀ u, wput ws isC (Wf u) = ws' u)
    (k : ∀ (u : S), post u → RUN g nL p l e R s m args below meth c A cells slots Q (ws' u) (pc + 3) lv (.ref b :: rest)) : W p l e R s m args below meth c H locs cells slots Q (F0 m pc ls st0) := by
  refine va_callr hr h4 (fun q _ h => hF q h) hF (fun u ra t H1 locs1 ht hvm hpo hB hz hk hS => ?_)
  obtain ⟨rfl, hP1, -⟩ := hB
  rw [ht] at hP1
  obtain ⟨h5, h6⟩ := wput_P h2 h3 hC (ha u) hk hP1
  rw [hw u] at h5 h6
  exact k u hpo ls H1 locs1 h1 h5 h6 hS
theorem run_V {y : MethodName} {C' : String} {idx maxL n b : Nat} {bytes : ByteArray} {ret' : Option FieldType} {rm : Room} {Qc : Nat → Array Value → State → Outcome → State → Prop} {As : List Value} {wc : va_W} {st0 : List Value} {ls : Array Slot} {H : Heap} {locs : List Loc} (C : CX g own cc nL ret A p s m args meth c) (h1 : lv_has ls nL lv) (h2 : va_P g.1 vwCl ws H) (h3 : va_D A ws) (h4 : va_S A s.heap H locs)
    (M : ∀ sz, Met l y (.code y bytes maxL ret' :: wsL_law) rm (PR g (.ref b :: As) wc sz) (Qc sz) 0 0 (va_A wc sz)) (kw : KV own idx C' y bytes maxL ret' n) (hd : decode cc pc = .ok (.invokevirtual idx, 3)) (hn : As.length = n) (hst : st0 = As.reverse ++ .ref b :: rest) (hR : RM rm R maxL rest = true) (hcs : Nat.ble cells R.cells = true ∧ Nat.ble slots R.slots = true) (q0 ci : Nat) {fs : List Value} {q : vw_C} (hq : ws[q0]? = some (b, oB ci fs)) (hci : vwCl[ci]? = some q) (hqc : q.1 = C') (isC : List Nat) (hC : isC.map (fun i => ws[i]?) = wc.map some) (hnd : va_nd isC = true) :
    va_Run p l e R s m args below meth c H locs cells slots 0 0 (F0 m pc ls st0) rest (Qc H.size (Value.ref b :: As).toArray) (va_A wc H.size) := by
  simp only [RM, Bool.and_eq_true] at hR
  obtain ⟨⟨⟨⟨hR1, hR2⟩, hR3⟩, hR4⟩, hR5⟩ := hR
  obtain ⟨-, hpre⟩ := pre_call (av := .ref b :: As) C h2 h3 h4 isC hC hnd
  refine va_runV ⟨C.1, C.2.1, C.2.2.1, C.2.2.2.1, C.2.2.2.2.1⟩ (M H.size) (cwV n C.2.2.2.2.1 (good_V kw) rfl (Nat.eq_of_beq_eq_true hR3) (Nat.eq_of_beq_eq_true hR4) kw.2.2.2.2.2 ⟨Nat.le_of_ble_eq_true hR1, Nat.le_of_ble_eq_true hR2⟩) ⟨PR.blind, ?_, hpre⟩ rfl hn h1.1 hst (lv_room (Nat.le_of_ble_eq_true hR5)) hd ⟨Nat.le_of_ble_eq_true hcs.1, Nat.le_of_ble_eq_true hcs.2⟩
  exact hqc ▸ va_recv C.2.2.2.2.2.1 h2 hci hq
theorem run_S {y : MethodName} {idx maxL n : Nat} {bytes : ByteArray} {ret' : Option FieldType} {rm : Room} {Qc : Nat → Array Value → State → Outcome → State → Prop} {As : List Value} {wc : va_W} {st0 : List Value} {ls : Array Slot} {H : Heap} {locs : List Loc} (C : CX g own cc nL ret A p s m args meth c) (h1 : lv_has ls nL lv) (h2 : va_P g.1 vwCl ws H) (h3 : va_D A ws) (h4 : va_S A s.heap H locs)
    (M : ∀ sz, Met l y (.code y bytes maxL ret' :: wsL_law) rm (PR g As wc sz) (Qc sz) 0 0 (va_A wc sz)) (kw : KS own idx y bytes maxL ret' n) (hd : decode cc pc = .ok (.invokestatic idx, 3)) (hn : As.length = n) (hst : st0 = As.reverse ++ rest) (hR : RM rm R maxL rest = true) (hcs : Nat.ble cells R.cells = true ∧ Nat.ble slots R.slots = true) (isC : List Nat) (hC : isC.map (fun i => ws[i]?) = wc.map some) (hnd : va_nd isC = true) :
    va_Run p l e R s m args below meth c H locs cells slots 0 0 (F0 m pc ls st0) rest (Qc H.size As.toArray) (va_A wc H.size) := by
  simp only [RM, Bool.and_eq_true] at hR
  obtain ⟨⟨⟨⟨hR1, hR2⟩, hR3⟩, hR4⟩, hR5⟩ := hR
  obtain ⟨-, hpre⟩ := pre_call (av := As) C h2 h3 h4 isC hC hnd
  exact va_runS ⟨C.1, C.2.1, C.2.2.1, C.2.2.2.1, C.2.2.2.2.1⟩ (M H.size) (va_cwS n C.2.2.2.2.1 (good_S kw) rfl (Nat.eq_of_beq_eq_true hR3) (Nat.eq_of_beq_eq_true hR4) kw.2.2.2.2 ⟨Nat.le_of_ble_eq_true hR1, Nat.le_of_ble_eq_true hR2⟩) ⟨PR.blind, hpre⟩ rfl hn h1.1 hst (lv_room (Nat.le_of_ble_eq_true hR5)) hd ⟨Nat.le_of_ble_eq_true hcs.1, Nat.le_of_ble_eq_true hcs.2⟩
theorem run_N {y : MethodName} {host : String} {idx maxL n : Nat} {bytes : ByteArray} {ret' : Option FieldType} {rm : Room} {Qc : Nat → Array Value → State → Outcome → State → Prop} {As : List Value} {wc : va_W} {st0 : List Value} {ls : Array Slot} {H : Heap} {locs : List Loc} (C : CX g own cc nL ret A p s m args meth c) (h1 : lv_has ls nL lv) (h2 : va_P g.1 vwCl ws H) (h3 : va_D A ws) (h4 : va_S A s.heap H locs)
    (M : ∀ sz, Met l y (.code y bytes maxL ret' :: wsL_law) rm (PR g As wc sz) (Qc sz) 0 0 (va_A wc sz)) (kw : KN own idx host y bytes maxL ret' n) (hd : decode cc pc = .ok (.invokestatic idx, 3)) (hn : As.length = n) (hst : st0 = As.reverse ++ rest) (hR : RM rm R maxL rest = true) (hcs : Nat.ble cells R.cells = true ∧ Nat.ble slots R.slots = true) (isC : List Nat) (hC : isC.map (fun i => ws[i]?) = wc.map some) (hnd : va_nd isC = true) :
    va_Run p l e R s m args below meth c H locs cells slots 0 0 (F0 m pc ls st0) rest (Qc H.size As.toArray) (va_A wc H.size) := by
  simp only [RM, Bool.and_eq_true] at hR
  obtain ⟨⟨⟨⟨hR1, hR2⟩, hR3⟩, hR4⟩, hR5⟩ := hR
  obtain ⟨-, hpre⟩ := pre_call (av := As) C h2 h3 h4 isC hC hnd
  exact va_runSN (host := host) ⟨C.1, C.2.1, C.2.2.1, C.2.2.2.1, C.2.2.2.2.1⟩ (M H.size) ⟨va_cnB n C.2.2.2.2.1 (good_c kw.2.2.2.1) rfl (Nat.eq_of_beq_eq_true hR3) (Nat.eq_of_beq_eq_true hR4) (C.2.2.2.2.2.2.1.2 _ kw.1) (C.2.2.2.2.1 _ kw.2.2.1) kw.2.2.2.2 ⟨Nat.le_of_ble_eq_true hR1, Nat.le_of_ble_eq_true hR2⟩, C.2.2.2.2.1 _ kw.2.1, trivial⟩ ⟨PR.blind, hpre⟩ rfl hn h1.1 hst (lv_room (Nat.le_of_ble_eq_true hR5)) hd ⟨Nat.le_of_ble_eq_true hcs.1, Nat.le_of_ble_eq_true hcs.2⟩
end
section
variable {g : Gx} {own : String} {cc : ByteArray} {nL : Nat} {ret : Option FieldType} {p : Program} {l : Launch} {e : Env} {R : Room} {s : State} {m : MethodId} {args : Array Value} {below : List Frame} {meth : Method} {c : Code} {A : Nat → Prop} {cells slots : Nat} {Q : State → Prop} {ws : va_W} {pc : Nat} {lv : List (Nat × Value)} {rest : List Value}
theorem k_Vi {y : MethodName} {C' : String} {idx maxL n b : Nat} {bytes : ByteArray} {ret' : Option FieldType} {rm : Room} {S : Type} {post : Int → S → Prop} {Wf : S → va_W} {As : List Value} {wc : va_W} {ws' : S → va_W} {st0 : List Value} (C : CX g own cc nL ret A p s m args meth c) (kw : KV own idx C' y bytes maxL ret' n) (M : ∀ sz, Met l y (.code y bytes maxL ret' :: wsL_law) rm (PR g (.ref b :: As) wc sz) (PI g post Wf wc sz) 0 0 (va_A wc sz)) (hd : decode cc pc = .ok (.invokevirtual idx, 3)) (hn : As.length = n) (hst : st0 = As.reverse ++ .ref b :: rest) (hR : RM rm R maxL rest = true) (hcs : Nat.ble cells R.cells = true ∧ Nat.ble slots R.slots = true) (q0 ci : Nat) {fs : List Value} {q : vw_C} (hq : ws[q0]? = some (b, oB ci fs)) (hci : vwCl[ci]? = some q) (hqc : q.1 = C') (isC : List Nat) (hC : isC.map (fun i => ws[i]?) = wc.map some) (hnd : va_nd isC = true) (ha : ∀ u, (Wf u).map Prod.fst = wc.map Prod.fst) (hw : ∀ u, wput ws isC (Wf u) = ws' u) (k : ∀ (x : Int) (u : S), post x u → RUN g nL p l e R s m args below meth c A cells slots Q (ws' u) (pc + 3) lv (vi x :: rest)) : RUN g nL p l e R s m args below meth c A cells slots Q ws pc lv st0 := fun ls H locs h1 h2 h3 h4 =>
  aft_i h1 h2 h3 h4 isC hC (pre_call (av := []) C h2 h3 h4 isC hC hnd).1 (run_V (Qc := fun sz => PI g post Wf wc sz) C h1 h2 h3 h4 M kw hd hn hst hR hcs q0 ci hq hci hqc isC hC hnd) ha hw k
theorem k_Vv {y : MethodName} {C' : String} {idx maxL n b : Nat} {bytes : ByteArray} {ret' : Option FieldType} {rm : Room} {S : Type} {post : S → Prop} {Wf : S → va_W} {As : List Value} {wc : va_W} {ws' : S → va_W} {st0 : List Value} (C : CX g own cc nL ret A p s m args meth c) (kw : KV own idx C' y bytes maxL ret' n) (M : ∀ sz, Met l y (.code y bytes maxL ret' :: wsL_law) rm (PR g (.ref b :: As) wc sz) (PV g post Wf wc sz) 0 0 (va_A wc sz)) (hd : decode cc pc = .ok (.invokevirtual idx, 3)) (hn : As.length = n) (hst : st0 = As.reverse ++ .ref b :: rest) (hR : RM rm R maxL rest = true) (hcs : Nat.ble cells R.cells = true ∧ Nat.ble slots R.slots = true) (q0 ci : Nat) {fs : List Value} {q : vw_C} (hq : ws[q0]? = some (b, oB ci fs)) (hci : vwCl[ci]? = some q) (hqc : q.1 = C') (isC : List Nat) (hC : isC.map (fun i => ws[i]?) = wc.map some) (hnd : va_nd isC = true) (ha : ∀ u, (Wf u).map Prod.fst = wc.map Prod.fst) (hw : ∀ u, wput ws isC (Wf u) = ws' u) (k : ∀ (u : S), post u → RUN g nL p l e R s m args below meth c A cells slots Q (ws' u) (pc + 3) lv rest) : RUN g nL p l e R s m args below meth c A cells slots Q ws pc lv st0 := fun ls H locs h1 h2 h3 h4 =>
  aft_v h1 h2 h3 h4 isC hC (pre_call (av := []) C h2 h3 h4 isC hC hnd).1 (run_V (Qc := fun sz => PV g post Wf wc sz) C h1 h2 h3 h4 M kw hd hn hst hR hcs q0 ci hq hci hqc isC hC hnd) ha hw k
theorem k_Va {y : MethodName} {C' : String} {idx maxL n b : Nat} {bytes : ByteArray} {ret' : Option FieldType} {rm : Room} {S : Type} {r0 : Nat} {post : S → Prop} {Wf : S → va_W} {As : List Value} {wc : va_W} {ws' : S → va_W} {st0 : List Value} (C : CX g own cc nL ret A p s m args meth c) (kw : KV own idx C' y bytes maxL ret' n) (M : ∀ sz, Met l y (.code y bytes maxL ret' :: wsL_law) rm (PR g (.ref b :: As) wc sz) (PA g r0 post Wf wc sz) 0 0 (va_A wc sz)) (hd : decode cc pc = .ok (.invokevirtual idx, 3)) (hn : As.length = n) (hst : st0 = As.reverse ++ .ref b :: rest) (hR : RM rm R maxL rest = true) (hcs : Nat.ble cells R.cells = true ∧ Nat.ble slots R.slots = true) (q0 ci : Nat) {fs : List Value} {q : vw_C} (hq : ws[q0]? = some (b, oB ci fs)) (hci : vwCl[ci]? = some q) (hqc : q.1 = C') (isC : List Nat) (hC : isC.map (fun i => ws[i]?) = wc.map some) (hnd : va_nd isC = true) (ha : ∀ u, (Wf u).map Prod.fst = wc.map Prod.fst) (hw : ∀ u, wput ws isC (Wf u) = ws' u) (k : ∀ (u : S), post u → RUN g nL p l e R s m args below meth c A cells slots Q (ws' u) (pc + 3) lv (.ref r0 :: rest)) : RUN g nL p l e R s m args below meth c A cells slots Q ws pc lv st0 := fun ls H locs h1 h2 h3 h4 =>
  aft_a h1 h2 h3 h4 isC hC (pre_call (av := []) C h2 h3 h4 isC hC hnd).1 (run_V (Qc := fun sz => PA g r0 post Wf wc sz) C h1 h2 h3 h4 M kw hd hn hst hR hcs q0 ci hq hci hqc isC hC hnd) ha hw k
theorem k_Si {y : MethodName} {idx maxL n : Nat} {bytes : ByteArray} {ret' : Option FieldType} {rm : Room} {S : Type} {post : Int → S → Prop} {Wf : S → va_W} {As : List Value} {wc : va_W} {ws' : S → va_W} {st0 : List Value} (C : CX g own cc nL ret A p s m args meth c) (kw : KS own idx y bytes maxL ret' n) (M : ∀ sz, Met l y (.code y bytes maxL ret' :: wsL_law) rm (PR g As wc sz) (PI g post Wf wc sz) 0 0 (va_A wc sz)) (hd : decode cc pc = .ok (.invokestatic idx, 3)) (hn : As.length = n) (hst : st0 = As.reverse ++ rest) (hR : RM rm R maxL rest = true) (hcs : Nat.ble cells R.cells = true ∧ Nat.ble slots R.slots = true) (isC : List Nat) (hC : isC.map (fun i => ws[i]?) = wc.map some) (hnd : va_nd isC = true) (ha : ∀ u, (Wf u).map Prod.fst = wc.map Prod.fst) (hw : ∀ u, wput ws isC (Wf u) = ws' u) (k : ∀ (x : Int) (u : S), post x u → RUN g nL p l e R s m args below meth c A cells slots Q (ws' u) (pc + 3) lv (vi x :: rest)) : RUN g nL p l e R s m args below meth c A cells slots Q ws pc lv st0 := fun ls H locs h1 h2 h3 h4 =>
  aft_i h1 h2 h3 h4 isC hC (pre_call (av := []) C h2 h3 h4 isC hC hnd).1 (run_S (Qc := fun sz => PI g post Wf wc sz) C h1 h2 h3 h4 M kw hd hn hst hR hcs isC hC hnd) ha hw k
theorem k_Sv {y : MethodName} {idx maxL n : Nat} {bytes : ByteArray} {ret' : Option FieldType} {rm : Room} {S : Type} {post : S → Prop} {Wf : S → va_W} {As : List Value} {wc : va_W} {ws' : S → va_W} {st0 : List Value} (C : CX g own cc nL ret A p s m args meth c) (kw : KS own idx y bytes maxL ret' n) (M : ∀ sz, Met l y (.code y bytes maxL ret' :: wsL_law) rm (PR g As wc sz) (PV g post Wf wc sz) 0 0 (va_A wc sz)) (hd : decode cc pc = .ok (.invokestatic idx, 3)) (hn : As.length = n) (hst : st0 = As.reverse ++ rest) (hR : RM rm R maxL rest = true) (hcs : Nat.ble cells R.cells = true ∧ Nat.ble slots R.slots = true) (isC : List Nat) (hC : isC.map (fun i => ws[i]?) = wc.map some) (hnd : va_nd isC = true) (ha : ∀ u, (Wf u).map Prod.fst = wc.map Prod.fst) (hw : ∀ u, wput ws isC (Wf u) = ws' u) (k : ∀ (u : S), post u → RUN g nL p l e R s m args below meth c A cells slots Q (ws' u) (pc + 3) lv rest) : RUN g nL p l e R s m args below meth c A cells slots Q ws pc lv st0 := fun ls H locs h1 h2 h3 h4 =>
  aft_v h1 h2 h3 h4 isC hC (pre_call (av := []) C h2 h3 h4 isC hC hnd).1 (run_S (Qc := fun sz => PV g post Wf wc sz) C h1 h2 h3 h4 M kw hd hn hst hR hcs isC hC hnd) ha hw k
theorem k_Sa {y : MethodName} {idx maxL n : Nat} {bytes : ByteArray} {ret' : Option FieldType} {rm : Room} {S : Type} {r0 : Nat} {post : S → Prop} {Wf : S → va_W} {As : List Value} {wc : va_W} {ws' : S → va_W} {st0 : List Value} (C : CX g own cc nL ret A p s m args meth c) (kw : KS own idx y bytes maxL ret' n) (M : ∀ sz, Met l y (.code y bytes maxL ret' :: wsL_law) rm (PR g As wc sz) (PA g r0 post Wf wc sz) 0 0 (va_A wc sz)) (hd : decode cc pc = .ok (.invokestatic idx, 3)) (hn : As.length = n) (hst : st0 = As.reverse ++ rest) (hR : RM rm R maxL rest = true) (hcs : Nat.ble cells R.cells = true ∧ Nat.ble slots R.slots = true) (isC : List Nat) (hC : isC.map (fun i => ws[i]?) = wc.map some) (hnd : va_nd isC = true) (ha : ∀ u, (Wf u).map Prod.fst = wc.map Prod.fst) (hw : ∀ u, wput ws isC (Wf u) = ws' u) (k : ∀ (u : S), post u → RUN g nL p l e R s m args below meth c A cells slots Q (ws' u) (pc + 3) lv (.ref r0 :: rest)) : RUN g nL p l e R s m args below meth c A cells slots Q ws pc lv st0 := fun ls H locs h1 h2 h3 h4 =>
  aft_a h1 h2 h3 h4 isC hC (pre_call (av := []) C h2 h3 h4 isC hC hnd).1 (run_S (Qc := fun sz => PA g r0 post Wf wc sz) C h1 h2 h3 h4 M kw hd hn hst hR hcs isC hC hnd) ha hw k
theorem k_Ni {y : MethodName} {host : String} {idx maxL n : Nat} {bytes : ByteArray} {ret' : Option FieldType} {rm : Room} {S : Type} {post : Int → S → Prop} {Wf : S → va_W} {As : List Value} {wc : va_W} {ws' : S → va_W} {st0 : List Value} (C : CX g own cc nL ret A p s m args meth c) (kw : KN own idx host y bytes maxL ret' n) (M : ∀ sz, Met l y (.code y bytes maxL ret' :: wsL_law) rm (PR g As wc sz) (PI g post Wf wc sz) 0 0 (va_A wc sz)) (hd : decode cc pc = .ok (.invokestatic idx, 3)) (hn : As.length = n) (hst : st0 = As.reverse ++ rest) (hR : RM rm R maxL rest = true) (hcs : Nat.ble cells R.cells = true ∧ Nat.ble slots R.slots = true) (isC : List Nat) (hC : isC.map (fun i => ws[i]?) = wc.map some) (hnd : va_nd isC = true) (ha : ∀ u, (Wf u).map Prod.fst = wc.map Prod.fst) (hw : ∀ u, wput ws isC (Wf u) = ws' u) (k : ∀ (x : Int) (u : S), post x u → RUN g nL p l e R s m args below meth c A cells slots Q (ws' u) (pc + 3) lv (vi x :: rest)) : RUN g nL p l e R s m args below meth c A cells slots Q ws pc lv st0 := fun ls H locs h1 h2 h3 h4 =>
  aft_i h1 h2 h3 h4 isC hC (pre_call (av := []) C h2 h3 h4 isC hC hnd).1 (run_N (Qc := fun sz => PI g post Wf wc sz) C h1 h2 h3 h4 M kw hd hn hst hR hcs isC hC hnd) ha hw k
theorem k_Nv {y : MethodName} {host : String} {idx maxL n : Nat} {bytes : ByteArray} {ret' : Option FieldType} {rm : Room} {S : Type} {post : S → Prop} {Wf : S → va_W} {As : List Value} {wc : va_W} {ws' : S → va_W} {st0 : List Value} (C : CX g own cc nL ret A p s m args meth c) (kw : KN own idx host y bytes maxL ret' n) (M : ∀ sz, Met l y (.code y bytes maxL ret' :: wsL_law) rm (PR g As wc sz) (PV g post Wf wc sz) 0 0 (va_A wc sz)) (hd : decode cc pc = .ok (.invokestatic idx, 3)) (hn : As.length = n) (hst : st0 = As.reverse ++ rest) (hR : RM rm R maxL rest = true) (hcs : Nat.ble cells R.cells = true ∧ Nat.ble slots R.slots = true) (isC : List Nat) (hC : isC.map (fun i => ws[i]?) = wc.map some) (hnd : va_nd isC = true) (ha : ∀ u, (Wf u).map Prod.fst = wc.map Prod.fst) (hw : ∀ u, wput ws isC (Wf u) = ws' u) (k : ∀ (u : S), post u → RUN g nL p l e R s m args below meth c A cells slots Q (ws' u) (pc + 3) lv rest) : RUN g nL p l e R s m args below meth c A cells slots Q ws pc lv st0 := fun ls H locs h1 h2 h3 h4 =>
  aft_v h1 h2 h3 h4 isC hC (pre_call (av := []) C h2 h3 h4 isC hC hnd).1 (run_N (Qc := fun sz => PV g post Wf wc sz) C h1 h2 h3 h4 M kw hd hn hst hR hcs isC hC hnd) ha hw k
theorem k_Na {y : MethodName} {host : String} {idx maxL n : Nat} {bytes : ByteArray} {ret' : Option FieldType} {rm : Room} {S : Type} {r0 : Nat} {post : S → Prop} {Wf : S → va_W} {As : List Value} {wc : va_W} {ws' : S → va_W} {st0 : List Value} (C : CX g own cc nL ret A p s m args meth c) (kw : KN own idx host y bytes maxL ret' n) (M : ∀ sz, Met l y (.code y bytes maxL ret' :: wsL_law) rm (PR g As wc sz) (PA g r0 post Wf wc sz) 0 0 (va_A wc sz)) (hd : decode cc pc = .ok (.invokestatic idx, 3)) (hn : As.length = n) (hst : st0 = As.reverse ++ rest) (hR : RM rm R maxL rest = true) (hcs : Nat.ble cells R.cells = true ∧ Nat.ble slots R.slots = true) (isC : List Nat) (hC : isC.map (fun i => ws[i]?) = wc.map some) (hnd : va_nd isC = true) (ha : ∀ u, (Wf u).map Prod.fst = wc.map Prod.fst) (hw : ∀ u, wput ws isC (Wf u) = ws' u) (k : ∀ (u : S), post u → RUN g nL p l e R s m args below meth c A cells slots Q (ws' u) (pc + 3) lv (.ref r0 :: rest)) : RUN g nL p l e R s m args below meth c A cells slots Q ws pc lv st0 := fun ls H locs h1 h2 h3 h4 =>
  aft_a h1 h2 h3 h4 isC hC (pre_call (av := []) C h2 h3 h4 isC hC hnd).1 (run_N (Qc := fun sz => PA g r0 post Wf wc sz) C h1 h2 h3 h4 M kw hd hn hst hR hcs isC hC hnd) ha hw k
end
theorem CX.of {g : Gx} {l : Launch} {y : MethodName} {cc : ByteArray} {nL : Nat} {ret : Option FieldType} {rm : Room} {av : List Value} {ws : va_W} {sz : Nat} {p : Program} {e : Env} {s : State} {m : MethodId} {args : Array Value} {below : List Frame} {meth : Method} {c : Code} {s1 : State} (B : BodyLoose p l y (headSpec (.code y cc nL ret :: wsL_law) rm) cc nL ret e s m args below meth c s1) (hml : c.maxLocals = nL) (hv : PR g av ws sz args s) : CX g y.cls cc nL ret (va_A ws sz) p s m args meth c := by
  obtain ⟨-, hsz, hP, hK, hD0, hN, hZ⟩ := hv
  have hts := atoms_spec (ws := .code y cc nL ret :: wsL_law) B.pre
  exact ⟨B.exec, B.bytes, hml, findClass_of_methodNamed B.named, fun w h => hts w (List.mem_cons_of_mem _ h), hK, hN, B.returns, B.notSynchronized, fun q h => Or.inr (hsz ▸ h), hZ⟩
theorem meet {g : Gx} {l : Launch} {y : MethodName} {cc : ByteArray} {nL : Nat} {ret : Option FieldType} {rm : Room} {av : List Value} {ws : va_W} {sz : Nat} {Qc : Array Value → State → Outcome → State → Prop} {own : String} (how : y.cls = own) (hy : plainFor y = true) (hav : Nat.ble (lg_sl av).length nL = true)
    (body : ∀ (p : Program) (e : Env) (s : State) (m : MethodId) (args : Array Value) (below : List Frame) (meth : Method) (c : Code), CX g own cc nL ret (va_A ws sz) p s m args meth c → (meth.name = y.name) → RUN g nL p l e rm s m args below meth c (va_A ws sz) 0 0 (MQ below Qc args s 0 0 (va_A ws sz)) ws 0 (lv_args 0 av) []) : Met l y (.code y cc nL ret :: wsL_law) rm (PR g av ws sz) Qc 0 0 (va_A ws sz) := by
  refine va_MetF (cc := cc) (maxL := nL) (ret := ret) hy rfl ?_
  intro p e s m args below meth c s1 B hml hv
  have hC := CX.of B hml hv
  have hnm : meth.name = y.name := (name_of_methodNamed B.named B.method).1
  obtain ⟨rfl, hsz, hP, hK, hD0, hN, hZ⟩ := hv
  have hl := lv_entry av (n := nL) (Nat.le_of_ble_eq_true hav)
  rw [lg_entry_eq]
  exact body p e s m _ below meth c (how ▸ hC) hnm _ s.heap [] hl hP (hD0.self (sz := sz)) va_S.rf
section
variable {g : Gx} {own : String} {cc : ByteArray} {nL : Nat} {ret : Option FieldType} {p : Program} {l : Launch} {e : Env} {R : Room} {s : State} {m : MethodId} {args : Array Value} {below : List Frame} {meth : Method} {c : Code} {wc : va_W} {sz : Nat} {ws : va_W} {pc : Nat} {lv : List (Nat × Value)} {S : Type} {Wf : S → va_W}
theorem e_i {post : Int → S → Prop} (C : CX g own cc nL (some .int) (va_A wc sz) p s m args meth c) {x : Int} (u : S) (hd : decode cc pc = .ok (.ireturn, 1)) (hp : post x u) (hw : Wf u = ws) : RUN g nL p l e R s m args below meth c (va_A wc sz) 0 0 (MQ below (PI g post Wf wc sz) args s 0 0 (va_A wc sz)) ws pc lv [vi x] := fun ls H locs h1 h2 h3 h4 => by
  subst hw
  exact W.iret C.1 C.2.1 C.2.2.2.2.2.2.2.1 (fun t ht hW => ⟨⟨zI x, u, rfl, ⟨x, rfl, hp⟩, by rw [ht]; exact h2, h3⟩, h4.F ht⟩) h4.2.2 hd C.2.2.2.2.2.2.2.2.1
theorem e_z {post : Int → S → Prop} (C : CX g own cc nL (some .boolean) (va_A wc sz) p s m args meth c) {x : Int} (u : S) (hd : decode cc pc = .ok (.ireturn, 1)) (hx : x = 0 ∨ x = 1) (hp : post x u) (hw : Wf u = ws) : RUN g nL p l e R s m args below meth c (va_A wc sz) 0 0 (MQ below (PI g post Wf wc sz) args s 0 0 (va_A wc sz)) ws pc lv [vi x] := fun ls H locs h1 h2 h3 h4 => by
  subst hw
  exact W.zret C.1 C.2.1 C.2.2.2.2.2.2.2.1 (by rcases hx with rfl | rfl <;> rfl) (fun t ht hW => ⟨⟨zI x, u, rfl, ⟨x, rfl, hp⟩, by rw [ht]; exact h2, h3⟩, h4.F ht⟩) h4.2.2 hd C.2.2.2.2.2.2.2.2.1
theorem e_c {post : Int → S → Prop} (C : CX g own cc nL (some .char) (va_A wc sz) p s m args meth c) {x : Int} (u : S) (hd : decode cc pc = .ok (.ireturn, 1)) (hx : narrow .char (vi x) = vi x) (hp : post x u) (hw : Wf u = ws) : RUN g nL p l e R s m args below meth c (va_A wc sz) 0 0 (MQ below (PI g post Wf wc sz) args s 0 0 (va_A wc sz)) ws pc lv [vi x] := fun ls H locs h1 h2 h3 h4 => by
  subst hw
  exact W.zret C.1 C.2.1 C.2.2.2.2.2.2.2.1 hx (fun t ht hW => ⟨⟨zI x, u, rfl, ⟨x, rfl, hp⟩, by rw [ht]; exact h2, h3⟩, h4.F ht⟩) h4.2.2 hd C.2.2.2.2.2.2.2.2.1
theorem e_v {post : S → Prop} (C : CX g own cc nL none (va_A wc sz) p s m args meth c) (u : S) (hd : decode cc pc = .ok (.return_, 1)) (hp : post u) (hw : Wf u = ws) : RUN g nL p l e R s m args below meth c (va_A wc sz) 0 0 (MQ below (PV g post Wf wc sz) args s 0 0 (va_A wc sz)) ws pc lv [] := fun ls H locs h1 h2 h3 h4 => by
  subst hw
  exact W.vret C.1 C.2.1 C.2.2.2.2.2.2.2.1 (fun t ht hW => ⟨⟨u, rfl, hp, by rw [ht]; exact h2, h3⟩, h4.F ht⟩) h4.2.2 hd C.2.2.2.2.2.2.2.2.1
theorem e_a {b : Nat} {nm : String} {post : S → Prop} (C : CX g own cc nL (some (.object nm)) (va_A wc sz) p s m args meth c) (u : S) (hd : decode cc pc = .ok (.areturn, 1)) (hp : post u) (hw : Wf u = ws) : RUN g nL p l e R s m args below meth c (va_A wc sz) 0 0 (MQ below (PA g b post Wf wc sz) args s 0 0 (va_A wc sz)) ws pc lv [.ref b] := fun ls H locs h1 h2 h3 h4 => by
  subst hw
  exact W.aret C.1 C.2.1 C.2.2.2.2.2.2.2.1 (Or.inl ⟨_, rfl⟩) (Or.inr ⟨b, rfl⟩) (fun t ht hW => ⟨⟨u, b, rfl, hp, rfl, by rw [ht]; exact h2, h3⟩, h4.F ht⟩) h4.2.2 hd C.2.2.2.2.2.2.2.2.1
end
