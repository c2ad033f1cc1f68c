/-! ===== the callee's cells by a mask ===== -/
def pick : List Bool → va_W → va_W
  | true :: bs, q :: ws => q :: pick bs ws
  | false :: bs, _ :: ws => pick bs ws
  | [], _ => []
  | _ :: _, [] => []
def mrg : List Bool → va_W → va_W → va_W
  | true :: bs, _ :: ws, e :: es => e :: mrg bs ws es
  | true :: _, q :: ws, [] => q :: ws
  | false :: bs, q :: ws, es => q :: mrg bs ws es
  | [], ws, _ => ws
  | _ :: _, [], _ => []
def idxs : List Bool → va_W → Nat → List Nat
  | true :: bs, _ :: ws, k => k :: idxs bs ws (k + 1)
  | false :: bs, _ :: ws, k => idxs bs ws (k + 1)
  | [], _, _ => []
  | _ :: _, [], _ => []
theorem idxs_map : ∀ (bs : List Bool) (pre ws : va_W), (idxs bs ws pre.length).map (fun i => (pre ++ ws)[i]?) = (pick bs ws).map some := by
  intro bs
  induction bs with
  | nil => intro pre ws; cases ws <;> rfl
  | cons b bs ih =>
    intro pre ws
    cases ws with
    | nil => cases b <;> rfl
    | cons q ws =>
      have e := ih (pre ++ [q]) ws
      rw [List.append_assoc, List.length_append] at e
      cases b with
      | false => exact e
      | true =>
        show (pre ++ q :: ws)[pre.length]? :: _ = some q :: _
        rw [List.getElem?_append_right (Nat.le_refl _), Nat.sub_self]
        exact congrArg (List.cons (some q)) e
theorem idxs_nd : ∀ (bs : List Bool) (ws : va_W) (k : Nat), va_nd (idxs bs ws k) = true ∧ ∀ i ∈ idxs bs ws k, k ≤ i := by
  intro bs
  induction bs with
  | nil => intro ws k; cases ws <;> exact ⟨rfl, fun i h => absurd h List.not_mem_nil⟩
  | cons b bs ih =>
    intro ws k
    cases ws with
    | nil => cases b <;> exact ⟨rfl, fun i h => absurd h List.not_mem_nil⟩
    | cons q ws =>
      have e := ih ws (k + 1)
      cases b with
      | false => exact ⟨e.1, fun i h => by have := e.2 i h; omega⟩
      | true =>
        refine ⟨?_, fun i h => ?_⟩
        · show (decide (k ∉ idxs bs ws (k + 1)) && va_nd (idxs bs ws (k + 1))) = true
          rw [e.1, Bool.and_true, decide_eq_true_eq]
          intro h
          have := e.2 k h
          omega
        · rcases List.mem_cons.mp h with h | h
          · omega
          · have := e.2 i h; omega
theorem wput_mrg : ∀ (bs : List Bool) (pre ws es : va_W), es.length = (pick bs ws).length → wput (pre ++ ws) (idxs bs ws pre.length) es = pre ++ mrg bs ws es := by
  intro bs
  induction bs with
  | nil => intro pre ws es h; cases ws <;> cases es <;> first | rfl | (simp [pick] at h)
  | cons b bs ih =>
    intro pre ws es h
    cases ws with
    | nil => cases b <;> cases es <;> first | (simp [mrg, idxs, wput]; done) | (simp [pick] at h)
    | cons q ws =>
      cases b with
      | false =>
        have e := ih (pre ++ [q]) ws es h
        rw [List.append_assoc, List.length_append, List.append_assoc] at e
        exact e
      | true =>
        cases es with
        | nil => simp [pick] at h
        | cons x es =>
          have e := ih (pre ++ [x]) ws es (by simpa [pick] using h)
          rw [List.append_assoc, List.length_append, List.append_assoc] at e
          show wput ((pre ++ q :: ws).set pre.length x) (idxs bs ws (pre.length + 1)) es = _
          rw [List.set_append_right _ _ (Nat.le_refl _), Nat.sub_self]
          exact e
theorem map_len {α β : Type} {a b : List α} {f : α → β} (h : a.map f = b.map f) : a.length = b.length := by simpa using congrArg List.length h
section
variable {g : Gx} {own : String} {cc : ByteArray} {nL : Nat} {ret : Option FieldType} {p : Program} {l : Launch} {e : Env} {R : Room} {s : State} {m : MethodId} {args : Array Value} {below : List Frame} {meth : Method} {c : Code} {A : Nat → Prop} {cells slots : Nat} {Q : State → Prop} {ws : va_W} {pc : Nat} {lv : List (Nat × Value)} {rest : List Value}
theorem m_Vi {y : MethodName} {C' : String} {idx maxL n b : Nat} {bytes : ByteArray} {ret' : Option FieldType} {rm : Room} {S : Type} {post : Int → S → Prop} {Wf : S → va_W} {As : List Value} {wc : va_W} {ws' : S → va_W} {st0 : List Value} (C : CX g own cc nL ret A p s m args meth c) (kw : KV own idx C' y bytes maxL ret' n) (M : ∀ sz, Met l y (.code y bytes maxL ret' :: wsL_law) rm (PR g (.ref b :: As) wc sz) (PI g post Wf wc sz) 0 0 (va_A wc sz)) (hd : decode cc pc = .ok (.invokevirtual idx, 3)) (hn : As.length = n) (hst : st0 = As.reverse ++ .ref b :: rest) (hR : RM rm R maxL rest = true) (hcs : Nat.ble cells R.cells = true ∧ Nat.ble slots R.slots = true) (q0 ci : Nat) {fs : List Value} {q : vw_C} (hq : ws[q0]? = some (b, oB ci fs)) (hci : vwCl[ci]? = some q) (hqc : q.1 = C') (sel : List Bool) (hp : pick sel ws = wc) (ha : ∀ u, (Wf u).map Prod.fst = wc.map Prod.fst) (hw : ∀ u, mrg sel ws (Wf u) = ws' u) (k : ∀ (x : Int) (u : S), post x u → RUN g nL p l e R s m args below meth c A cells slots Q (ws' u) (pc + 3) lv (vi x :: rest)) : RUN g nL p l e R s m args below meth c A cells slots Q ws pc lv st0 :=
  k_Vi C kw M hd hn hst hR hcs q0 ci hq hci hqc (idxs sel ws 0) (by rw [← hp]; exact idxs_map sel [] ws) (idxs_nd sel ws 0).1 ha (fun u => (wput_mrg sel [] ws (Wf u) (by rw [hp]; exact map_len (ha u))).trans (hw u)) k
theorem m_Vv {y : MethodName} {C' : String} {idx maxL n b : Nat} {bytes : ByteArray} {ret' : Option FieldType} {rm : Room} {S : Type} {post : S → Prop} {Wf : S → va_W} {As : List Value} {wc : va_W} {ws' : S → va_W} {st0 : List Value} (C : CX g own cc nL ret A p s m args meth c) (kw : KV own idx C' y bytes maxL ret' n) (M : ∀ sz, Met l y (.code y bytes maxL ret' :: wsL_law) rm (PR g (.ref b :: As) wc sz) (PV g post Wf wc sz) 0 0 (va_A wc sz)) (hd : decode cc pc = .ok (.invokevirtual idx, 3)) (hn : As.length = n) (hst : st0 = As.reverse ++ .ref b :: rest) (hR : RM rm R maxL rest = true) (hcs : Nat.ble cells R.cells = true ∧ Nat.ble slots R.slots = true) (q0 ci : Nat) {fs : List Value} {q : vw_C} (hq : ws[q0]? = some (b, oB ci fs)) (hci : vwCl[ci]? = some q) (hqc : q.1 = C') (sel : List Bool) (hp : pick sel ws = wc) (ha : ∀ u, (Wf u).map Prod.fst = wc.map Prod.fst) (hw : ∀ u, mrg sel ws (Wf u) = ws' u) (k : ∀ (u : S), post u → RUN g nL p l e R s m args below meth c A cells slots Q (ws' u) (pc + 3) lv rest) : RUN g nL p l e R s m args below meth c A cells slots Q ws pc lv st0 :=
  k_Vv C kw M hd hn hst hR hcs q0 ci hq hci hqc (idxs sel ws 0) (by rw [← hp]; exact idxs_map sel [] ws) (idxs_nd sel ws 0).1 ha (fun u => (wput_mrg sel [] ws (Wf u) (by rw [hp]; exact map_len (ha u))).trans (hw u)) k
theorem m_Va {y : MethodName} {C' : String} {idx maxL n b : Nat} {bytes : ByteArray} {ret' : Option FieldType} {rm : Room} {S : Type} {r0 : Nat} {post : S → Prop} {Wf : S → va_W} {As : List Value} {wc : va_W} {ws' : S → va_W} {st0 : List Value} (C : CX g own cc nL ret A p s m args meth c) (kw : KV own idx C' y bytes maxL ret' n) (M : ∀ sz, Met l y (.code y bytes maxL ret' :: wsL_law) rm (PR g (.ref b :: As) wc sz) (PA g r0 post Wf wc sz) 0 0 (va_A wc sz)) (hd : decode cc pc = .ok (.invokevirtual idx, 3)) (hn : As.length = n) (hst : st0 = As.reverse ++ .ref b :: rest) (hR : RM rm R maxL rest = true) (hcs : Nat.ble cells R.cells = true ∧ Nat.ble slots R.slots = true) (q0 ci : Nat) {fs : List Value} {q : vw_C} (hq : ws[q0]? = some (b, oB ci fs)) (hci : vwCl[ci]? = some q) (hqc : q.1 = C') (sel : List Bool) (hp : pick sel ws = wc) (ha : ∀ u, (Wf u).map Prod.fst = wc.map Prod.fst) (hw : ∀ u, mrg sel ws (Wf u) = ws' u) (k : ∀ (u : S), post u → RUN g nL p l e R s m args below meth c A cells slots Q (ws' u) (pc + 3) lv (.ref r0 :: rest)) : RUN g nL p l e R s m args below meth c A cells slots Q ws pc lv st0 :=
  k_Va C kw M hd hn hst hR hcs q0 ci hq hci hqc (idxs sel ws 0) (by rw [← hp]; exact idxs_map sel [] ws) (idxs_nd sel ws 0).1 ha (fun u => (wput_mrg sel [] ws (Wf u) (by rw [hp]; exact map_len (ha u))).trans (hw u)) k
theorem m_Si {y : MethodName} {idx maxL n : Nat} {bytes : ByteArray} {ret' : Option FieldType} {rm : Room} {S : Type} {post : Int → S → Prop} {Wf : S → va_W} {As : List Value} {wc : va_W} {ws' : S → va_W} {st0 : List Value} (C : CX g own cc nL ret A p s m args meth c) (kw : KS own idx y bytes maxL ret' n) (M : ∀ sz, Met l y (.code y bytes maxL ret' :: wsL_law) rm (PR g As wc sz) (PI g post Wf wc sz) 0 0 (va_A wc sz)) (hd : decode cc pc = .ok (.invokestatic idx, 3)) (hn : As.length = n) (hst : st0 = As.reverse ++ rest) (hR : RM rm R maxL rest = true) (hcs : Nat.ble cells R.cells = true ∧ Nat.ble slots R.slots = true) (sel : List Bool) (hp : pick sel ws = wc) (ha : ∀ u, (Wf u).map Prod.fst = wc.map Prod.fst) (hw : ∀ u, mrg sel ws (Wf u) = ws' u) (k : ∀ (x : Int) (u : S), post x u → RUN g nL p l e R s m args below meth c A cells slots Q (ws' u) (pc + 3) lv (vi x :: rest)) : RUN g nL p l e R s m args below meth c A cells slots Q ws pc lv st0 :=
  k_Si C kw M hd hn hst hR hcs (idxs sel ws 0) (by rw [← hp]; exact idxs_map sel [] ws) (idxs_nd sel ws 0).1 ha (fun u => (wput_mrg sel [] ws (Wf u) (by rw [hp]; exact map_len (ha u))).trans (hw u)) k
theorem m_Sv {y : MethodName} {idx maxL n : Nat} {bytes : ByteArray} {ret' : Option FieldType} {rm : Room} {S : Type} {post : S → Prop} {Wf : S → va_W} {As : List Value} {wc : va_W} {ws' : S → va_W} {st0 : List Value} (C : CX g own cc nL ret A p s m args meth c) (kw : KS own idx y bytes maxL ret' n) (M : ∀ sz, Met l y (.code y bytes maxL ret' :: wsL_law) rm (PR g As wc sz) (PV g post Wf wc sz) 0 0 (va_A wc sz)) (hd : decode cc pc = .ok (.invokestatic idx, 3)) (hn : As.length = n) (hst : st0 = As.reverse ++ rest) (hR : RM rm R maxL rest = true) (hcs : Nat.ble cells R.cells = true ∧ Nat.ble slots R.slots = true) (sel : List Bool) (hp : pick sel ws = wc) (ha : ∀ u, (Wf u).map Prod.fst = wc.map Prod.fst) (hw : ∀ u, mrg sel ws (Wf u) = ws' u) (k : ∀ (u : S), post u → RUN g nL p l e R s m args below meth c A cells slots Q (ws' u) (pc + 3) lv rest) : RUN g nL p l e R s m args below meth c A cells slots Q ws pc lv st0 :=
  k_Sv C kw M hd hn hst hR hcs (idxs sel ws 0) (by rw [← hp]; exact idxs_map sel [] ws) (idxs_nd sel ws 0).1 ha (fun u => (wput_mrg sel [] ws (Wf u) (by rw [hp]; exact map_len (ha u))).trans (hw u)) k
theorem m_Sa {y : MethodName} {idx maxL n : Nat} {bytes : ByteArray} {ret' : Option FieldType} {rm : Room} {S : Type} {r0 : Nat} {post : S → Prop} {Wf : S → va_W} {As : List Value} {wc : va_W} {ws' : S → va_W} {st0 : List Value} (C : CX g own cc nL ret A p s m args meth c) (kw : KS own idx y bytes maxL ret' n) (M : ∀ sz, Met l y (.code y bytes maxL ret' :: wsL_law) rm (PR g As wc sz) (PA g r0 post Wf wc sz) 0 0 (va_A wc sz)) (hd : decode cc pc = .ok (.invokestatic idx, 3)) (hn : As.length = n) (hst : st0 = As.reverse ++ rest) (hR : RM rm R maxL rest = true) (hcs : Nat.ble cells R.cells = true ∧ Nat.ble slots R.slots = true) (sel : List Bool) (hp : pick sel ws = wc) (ha : ∀ u, (Wf u).map Prod.fst = wc.map Prod.fst) (hw : ∀ u, mrg sel ws (Wf u) = ws' u) (k : ∀ (u : S), post u → RUN g nL p l e R s m args below meth c A cells slots Q (ws' u) (pc + 3) lv (.ref r0 :: rest)) : RUN g nL p l e R s m args below meth c A cells slots Q ws pc lv st0 :=
  k_Sa C kw M hd hn hst hR hcs (idxs sel ws 0) (by rw [← hp]; exact idxs_map sel [] ws) (idxs_nd sel ws 0).1 ha (fun u => (wput_mrg sel [] ws (Wf u) (by rw [hp]; exact map_len (ha u))).trans (hw u)) k
theorem m_Ni {y : MethodName} {host : String} {idx maxL n : Nat} {bytes : ByteArray} {ret' : Option FieldType} {rm : Room} {S : Type} {post : Int → S → Prop} {Wf : S → va_W} {As : List Value} {wc : va_W} {ws' : S → va_W} {st0 : List Value} (C : CX g own cc nL ret A p s m args meth c) (kw : KN own idx host y bytes maxL ret' n) (M : ∀ sz, Met l y (.code y bytes maxL ret' :: wsL_law) rm (PR g As wc sz) (PI g post Wf wc sz) 0 0 (va_A wc sz)) (hd : decode cc pc = .ok (.invokestatic idx, 3)) (hn : As.length = n) (hst : st0 = As.reverse ++ rest) (hR : RM rm R maxL rest = true) (hcs : Nat.ble cells R.cells = true ∧ Nat.ble slots R.slots = true) (sel : List Bool) (hp : pick sel ws = wc) (ha : ∀ u, (Wf u).map Prod.fst = wc.map Prod.fst) (hw : ∀ u, mrg sel ws (Wf u) = ws' u) (k : ∀ (x : Int) (u : S), post x u → RUN g nL p l e R s m args below meth c A cells slots Q (ws' u) (pc + 3) lv (vi x :: rest)) : RUN g nL p l e R s m args below meth c A cells slots Q ws pc lv st0 :=
  k_Ni C kw M hd hn hst hR hcs (idxs sel ws 0) (by rw [← hp]; exact idxs_map sel [] ws) (idxs_nd sel ws 0).1 ha (fun u => (wput_mrg sel [] ws (Wf u) (by rw [hp]; exact map_len (ha u))).trans (hw u)) k
theorem m_Nv {y : MethodName} {host : String} {idx maxL n : Nat} {bytes : ByteArray} {ret' : Option FieldType} {rm : Room} {S : Type} {post : S → Prop} {Wf : S → va_W} {As : List Value} {wc : va_W} {ws' : S → va_W} {st0 : List Value} (C : CX g own cc nL ret A p s m args meth c) (kw : KN own idx host y bytes maxL ret' n) (M : ∀ sz, Met l y (.code y bytes maxL ret' :: wsL_law) rm (PR g As wc sz) (PV g post Wf wc sz) 0 0 (va_A wc sz)) (hd : decode cc pc = .ok (.invokestatic idx, 3)) (hn : As.length = n) (hst : st0 = As.reverse ++ rest) (hR : RM rm R maxL rest = true) (hcs : Nat.ble cells R.cells = true ∧ Nat.ble slots R.slots = true) (sel : List Bool) (hp : pick sel ws = wc) (ha : ∀ u, (Wf u).map Prod.fst = wc.map Prod.fst) (hw : ∀ u, mrg sel ws (Wf u) = ws' u) (k : ∀ (u : S), post u → RUN g nL p l e R s m args below meth c A cells slots Q (ws' u) (pc + 3) lv rest) : RUN g nL p l e R s m args below meth c A cells slots Q ws pc lv st0 :=
  k_Nv C kw M hd hn hst hR hcs (idxs sel ws 0) (by rw [← hp]; exact idxs_map sel [] ws) (idxs_nd sel ws 0).1 ha (fun u => (wput_mrg sel [] ws (Wf u) (by rw [hp]; exact map_len (ha u))).trans (hw u)) k
theorem m_Na {y : MethodName} {host : String} {idx maxL n : Nat} {bytes : ByteArray} {ret' : Option FieldType} {rm : Room} {S : Type} {r0 : Nat} {post : S → Prop} {Wf : S → va_W} {As : List Value} {wc : va_W} {ws' : S → va_W} {st0 : List Value} (C : CX g own cc nL ret A p s m args meth c) (kw : KN own idx host y bytes maxL ret' n) (M : ∀ sz, Met l y (.code y bytes maxL ret' :: wsL_law) rm (PR g As wc sz) (PA g r0 post Wf wc sz) 0 0 (va_A wc sz)) (hd : decode cc pc = .ok (.invokestatic idx, 3)) (hn : As.length = n) (hst : st0 = As.reverse ++ rest) (hR : RM rm R maxL rest = true) (hcs : Nat.ble cells R.cells = true ∧ Nat.ble slots R.slots = true) (sel : List Bool) (hp : pick sel ws = wc) (ha : ∀ u, (Wf u).map Prod.fst = wc.map Prod.fst) (hw : ∀ u, mrg sel ws (Wf u) = ws' u) (k : ∀ (u : S), post u → RUN g nL p l e R s m args below meth c A cells slots Q (ws' u) (pc + 3) lv (.ref r0 :: rest)) : RUN g nL p l e R s m args below meth c A cells slots Q ws pc lv st0 :=
  k_Na C kw M hd hn hst hR hcs (idxs sel ws 0) (by rw [← hp]; exact idxs_map sel [] ws) (idxs_nd sel ws 0).1 ha (fun u => (wput_mrg sel [] ws (Wf u) (by rw [hp]; exact map_len (ha u))).trans (hw u)) k
end
