/-! ===== the first scene's text: a String constant ===== -/
def tx0 : String := "gaa;r..........;r..####....;r..#.......;r..#....#..;r.......#..;r....####..;r..........;r.#........;r.#........;r.####.....;dff;dgf;dhf;dif;dfe;dfd;m120;"
def chL : List Int := [103, 97, 97, 59, 114, 46, 46, 46, 46, 46, 46, 46, 46, 46, 46, 59, 114, 46, 46, 35, 35, 35, 35, 46, 46, 46, 46, 59, 114, 46, 46, 35, 46, 46, 46, 46, 46, 46, 46, 59, 114, 46, 46, 35, 46, 46, 46, 46, 35, 46, 46, 59, 114, 46, 46, 46, 46, 46, 46, 46, 35, 46, 46, 59, 114, 46, 46, 46, 46, 35, 35, 35, 35, 46, 46, 59, 114, 46, 46, 46, 46, 46, 46, 46, 46, 46, 46, 59, 114, 46, 35, 46, 46, 46, 46, 46, 46, 46, 46, 59, 114, 46, 35, 46, 46, 46, 46, 46, 46, 46, 46, 59, 114, 46, 35, 35, 35, 35, 46, 46, 46, 46, 46, 59, 100, 102, 102, 59, 100, 103, 102, 59, 100, 104, 102, 59, 100, 105, 102, 59, 100, 102, 101, 59, 100, 102, 100, 59, 109, 49, 50, 48, 59]
def ch0 (k : Int) : Int := chL.getD k.toNat 0
theorem chL_b : ∀ x ∈ chL, 0 ≤ x ∧ x < 128 := by decide +kernel
theorem ch0_b (k : Int) : 0 ≤ ch0 k ∧ ch0 k < 128 := by
  unfold ch0
  rw [List.getD_eq_getElem?_getD]
  cases h : chL[k.toNat]? with
  | none => exact ⟨by decide, by decide⟩
  | some x => exact chL_b x (List.mem_of_getElem? h)
theorem and255 : ∀ n : Fin 128, zI ((n : Nat) : Int) &&& zI 255 = zI ((n : Nat) : Int) := by decide +kernel
theorem z_255 {v : Int} (h : 0 ≤ v ∧ v < 128) : zI v &&& zI 255 = zI v := by
  have := and255 ⟨v.toNat, by omega⟩
  rw [show (((⟨v.toNat, by omega⟩ : Fin 128) : Nat) : Int) = v from Int.toNat_of_nonneg h.1] at this
  exact this
def fmC : String := "jdk/internal/util/Preconditions"
def rf : Option Nat → Value
  | some a => .ref a
  | none => .null
def STR (q v : Nat) (fm : Option Nat) (A : Nat → Prop) (U : State) (H : Heap) : Prop :=
  vk_R RX11 96 tx0 q U ∧ va_O RJ0 q A U H ∧ va_OF RJ0 "coder" "B" (vi 0) q A U H ∧ va_OF RJ0 "value" "[B" (.ref v) q A U H ∧ va_T .byte v 153 (fun j => vi (ch0 (j : Int))) A U H ∧ va_Z RJ0 "COMPACT_STRINGS" "Z" (vi 1) A U H ∧ va_Z "jdk/internal/util/Preconditions" "SIOOBE_FORMATTER" "Ljava/util/function/BiFunction;" (rf fm) A U H
theorem STR.go {q v : Nat} {fm : Option Nat} {A B : Nat → Prop} {s U : State} {H : Heap} (h : STR q v fm A s s.heap) (hk : ∀ a : Nat, a < s.heap.size → ¬ A a → H[a]? = s.heap[a]?) (hAB : ∀ q, B q → A q) (hU : U.heap = H) (hW : s.WarmedH U.vm) : STR q v fm B U U.heap := by
  subst hU
  obtain ⟨h1, h2, h3, h4, h5, h6, h7⟩ := h
  exact ⟨h1.warm hW, ((h2.kept hk).narrow hAB).moved hW.alike, ((h3.kept hk).narrow hAB).moved hW.alike, ((h4.kept hk).narrow hAB).moved hW.alike, ((h5.kept hk).narrow hAB).moved hW.alike, ((h6.kept hk).narrow hAB).moved hW.alike, ((h7.kept hk).narrow hAB).moved hW.alike⟩
theorem STR.blind {q v : Nat} {fm : Option Nat} {A : Nat → Prop} {U : State} {f : JFrame} {mk : MethodId} {a : Array Value} (h : STR q v fm A U U.heap) : STR q v fm A (U.calling f mk a) (U.calling f mk a).heap := by
  obtain ⟨h1, h2, h3, h4, h5, h6, h7⟩ := h
  have hr := Vm.Alike.refl U.vm
  exact ⟨vk_R.same (u := U) (U := U.calling f mk a) rfl h1, va_O.moved (u := U) (U := U.calling f mk a) hr h2, va_OF.moved (u := U) (U := U.calling f mk a) hr h3, va_OF.moved (u := U) (U := U.calling f mk a) hr h4, va_T.moved (u := U) (U := U.calling f mk a) hr h5, va_Z.moved (u := U) (U := U.calling f mk a) hr h6, va_Z.moved (u := U) (U := U.calling f mk a) hr h7⟩
def PRs (g : Gx) (av : List Value) (sz q v : Nat) (fm : Option Nat) : Array Value → State → Prop := fun a U => PR g av [] sz a U ∧ STR q v fm (va_A [] sz) U U.heap
theorem PRs.blind {g : Gx} {av : List Value} {sz q v : Nat} {fm : Option Nat} : FrameBlind (PRs g av sz q v fm) := fun a U f mk h => ⟨PR.blind a U f mk h.1, h.2.blind⟩
theorem meetS {g : Gx} {l : Launch} {y : MethodName} {cc : ByteArray} {nL : Nat} {ret : Option FieldType} {rm : Room} {av : List Value} {sz q v : Nat} {fm : Option Nat} {Qc : Array Value → State → Outcome → State → Prop} {own : String} (how : y.cls = own) (hy : plainFor y = true) (hav : Nat.ble (lg_sl av).length nL = true)
    (body : ∀ (p : Program) (e : Env) (s : State) (m : MethodId) (args : Array Value) (below : List Frame) (meth : Method) (c : Code), CX g own cc nL ret (va_A [] sz) p s m args meth c → STR q v fm (va_A [] sz) s s.heap → RUN g nL p l e rm s m args below meth c (va_A [] sz) 0 0 (MQ below Qc args s 0 0 (va_A [] sz)) [] 0 (lv_args 0 av) []) : Met l y (.code y cc nL ret :: wsL_law) rm (PRs g av sz q v fm) Qc 0 0 (va_A [] sz) := by
  refine va_MetF (cc := cc) (maxL := nL) (ret := ret) hy rfl ?_
  intro p e s m args below meth c s1 B hml hvo
  obtain ⟨hv, hst⟩ := hvo
  have hC := CX.of B hml hv
  obtain ⟨rfl, hsz, hP, hK, hD0, hN, hZ⟩ := hv
  have hl := lv_entry av (n := nL) (Nat.le_of_ble_eq_true hav)
  rw [lg_entry_eq]
  exact body p e s m _ below meth c (how ▸ hC) hst _ s.heap [] hl hP (hD0.self (sz := sz)) va_S.rf
section
variable {g : Gx} {own : String} {cc : ByteArray} {nL : Nat} {ret : Option FieldType} {p : Program} {l : Launch} {e : Env} {R : Room} {s : State} {m : MethodId} {args : Array Value} {below : List Frame} {meth : Method} {c : Code} {A : Nat → Prop} {cells slots : Nat} {Q : State → Prop} {ws : va_W} {pc : Nat} {lv : List (Nat × Value)} {st : List Value}
theorem r_getsV (C : CX g own cc nL ret A p s m args meth c) {Cn nm d : String} {idx : Nat} {v : Value} (hZ : va_Z Cn nm d v A s s.heap) (hl : Cond.fieldLink own idx Cn nm d ∈ wsL_law) (hd : decode cc pc = .ok (.getstatic idx, 3)) (k : RUN g nL p l e R s m args below meth c A cells slots Q ws (pc + 3) lv (v :: st)) : RUN g nL p l e R s m args below meth c A cells slots Q ws pc lv st := fun ls H locs h1 h2 h3 h4 => va_gets C.1 C.2.1 hZ h4 C.2.2.2.1 (C.2.2.2.2.1 _ hl) (fun _ h => h) hd (k ls H locs h1 h2 h3 h4)
theorem r_getfO (C : CX g own cc nL ret A p s m args meth c) {Cn nm d : String} {idx q : Nat} {v : Value} (hE : va_OF Cn nm d v q A s s.heap) (hl : Cond.fieldLink own idx Cn nm d ∈ wsL_law) (hd : decode cc pc = .ok (.getfield idx, 3)) (k : RUN g nL p l e R s m args below meth c A cells slots Q ws (pc + 3) lv (v :: st)) : RUN g nL p l e R s m args below meth c A cells slots Q ws pc lv (.ref q :: st) := fun ls H locs h1 h2 h3 h4 => vk_getf C.1 C.2.1 hE h4 C.2.2.2.1 (C.2.2.2.2.1 _ hl) (fun _ h => h) hd (k ls H locs h1 h2 h3 h4)
theorem r_tlen (C : CX g own cc nL ret A p s m args meth c) {ty : FieldType} {t N : Nat} {f : Nat → Value} {n : Int} (hT : va_T ty t N f A s s.heap) (hn : Int32.ofNat N = zI n) (hd : decode cc pc = .ok (.arraylength, 1)) (k : RUN g nL p l e R s m args below meth c A cells slots Q ws (pc + 1) lv (vi n :: st)) : RUN g nL p l e R s m args below meth c A cells slots Q ws pc lv (.ref t :: st) := fun ls H locs h1 h2 h3 h4 => va_tlen C.1 C.2.1 hT h4 hn hd (k ls H locs h1 h2 h3 h4)
theorem r_tbld (C : CX g own cc nL ret A p s m args meth c) {t N : Nat} {f : Nat → Value} {i x : Int} (hT : va_T .byte t N f A s s.heap) (hn : Nat.ble N 1000000 = true) (h : 0 ≤ i ∧ i < N) (hv : f i.toNat = vi x) (hd : decode cc pc = .ok (.baload, 1)) (k : RUN g nL p l e R s m args below meth c A cells slots Q ws (pc + 1) lv (vi x :: st)) : RUN g nL p l e R s m args below meth c A cells slots Q ws pc lv (vi i :: .ref t :: st) := fun ls H locs h1 h2 h3 h4 => va_tb C.1 C.2.1 hT h4 (zI_in hn h) (by rw [zI_cl (by have := Nat.le_of_ble_eq_true hn; omega)]; exact hv) hd (k ls H locs h1 h2 h3 h4)
theorem r_ldcS (C : CX g own cc nL ret A p s m args meth c) {tx : String} {idx q : Nat} (hZ : vk_R own idx tx q s) (hd : decode cc pc = .ok (.ldc idx, 2)) (k : RUN g nL p l e R s m args below meth c A cells slots Q ws (pc + 2) lv (.ref q :: st)) : RUN g nL p l e R s m args below meth c A cells slots Q ws pc lv st := fun ls H locs h1 h2 h3 h4 => va_ldcS C.1 C.2.1 C.2.2.2.1 hZ hd (k ls H locs h1 h2 h3 h4)
theorem k_Ssi {y : MethodName} {idx maxL n q v : Nat} {fm : Option Nat} {bytes : ByteArray} {ret' : Option FieldType} {rm : Room} {post : Int → Unit → Prop} {As rest st0 : List Value} (C : CX g own cc nL ret A p s m args meth c) (hS : STR q v fm A s s.heap) (kw : KS own idx y bytes maxL ret' n) (M : ∀ sz, Met l y (.code y bytes maxL ret' :: wsL_law) rm (PRs g As sz q v fm) (PI (S := Unit) g post (fun _ => []) [] sz) 0 0 (va_A [] sz)) (hd : decode cc pc = .ok (.invokestatic idx, 3)) (hn : As.length = n) (hst : st0 = As.reverse ++ rest) (hR : RM rm R maxL rest = true) (hcs : Nat.ble cells R.cells = true ∧ Nat.ble slots R.slots = true) (k : ∀ x : Int, post x () → RUN g nL p l e R s m args below meth c A cells slots Q ws (pc + 3) lv (vi x :: rest)) : RUN g nL p l e R s m args below meth c A cells slots Q ws pc lv st0 := fun ls H locs h1 h2 h3 h4 => by
  simp only [RM, Bool.and_eq_true] at hR
  obtain ⟨⟨⟨⟨hR1, hR2⟩, hR3⟩, hR4⟩, hR5⟩ := hR
  obtain ⟨hF, hpre⟩ := pre_call (wc := []) (av := As) C h2 h3 h4 [] rfl rfl
  have hpr : ∀ U : State, U.heap = H → s.WarmedH U.vm → PRs g As H.size q v fm As.toArray U := fun U hU hW => ⟨hpre U hU hW, hS.go (fun a h5 h6 => h4.2.1 a h5 h6) hF hU hW⟩
  have hrc : ∃ cell : Cell, H[q]? = some cell ∧ cell.vm.isStatics = false ∧ s.vm.findClass RJ0 = some cell.cls := by
    obtain ⟨cell, e1, e2, e3, -⟩ := hS.2.1.kept (H1 := H) (fun a h5 h6 => h4.2.1 a h5 h6)
    exact ⟨cell, e1, e2, e3⟩
  have hr : va_Run p l e R s m args below meth c H locs cells slots 0 0 (F0 m pc ls st0) rest (PI (S := Unit) g post (fun _ => []) [] H.size As.toArray) (va_A [] H.size) := va_runS ⟨C.1, C.2.1, C.2.2.1, C.2.2.2.1, C.2.2.2.2.1⟩ (M H.size) (va_cwS n C.2.2.2.2.1 (good_S kw) rfl (Nat.eq_of_beq_eq_true hR3) (Nat.eq_of_beq_eq_true hR4) kw.2.2.2.2 ⟨Nat.le_of_ble_eq_true hR1, Nat.le_of_ble_eq_true hR2⟩) ⟨PRs.blind, hpr⟩ rfl hn h1.1 hst (lv_room (Nat.le_of_ble_eq_true hR5)) hd ⟨Nat.le_of_ble_eq_true hcs.1, Nat.le_of_ble_eq_true hcs.2⟩
  exact aft_i h1 h2 h3 h4 [] rfl hF hr (fun _ => rfl) (ws' := fun _ => ws) (fun _ => rfl) (fun x u hx => k x hx)
theorem k_Ssv {y : MethodName} {idx maxL n q v : Nat} {fm : Option Nat} {bytes : ByteArray} {ret' : Option FieldType} {rm : Room} {post : Unit → Prop} {As rest st0 : List Value} (C : CX g own cc nL ret A p s m args meth c) (hS : STR q v fm A s s.heap) (kw : KS own idx y bytes maxL ret' n) (M : ∀ sz, Met l y (.code y bytes maxL ret' :: wsL_law) rm (PRs g As sz q v fm) (PV (S := Unit) g post (fun _ => []) [] sz) 0 0 (va_A [] sz)) (hd : decode cc pc = .ok (.invokestatic idx, 3)) (hn : As.length = n) (hst : st0 = As.reverse ++ rest) (hR : RM rm R maxL rest = true) (hcs : Nat.ble cells R.cells = true ∧ Nat.ble slots R.slots = true) (k : post () → RUN g nL p l e R s m args below meth c A cells slots Q ws (pc + 3) lv rest) : RUN g nL p l e R s m args below meth c A cells slots Q ws pc lv st0 := fun ls H locs h1 h2 h3 h4 => by
  simp only [RM, Bool.and_eq_true] at hR
  obtain ⟨⟨⟨⟨hR1, hR2⟩, hR3⟩, hR4⟩, hR5⟩ := hR
  obtain ⟨hF, hpre⟩ := pre_call (wc := []) (av := As) C h2 h3 h4 [] rfl rfl
  have hpr : ∀ U : State, U.heap = H → s.WarmedH U.vm → PRs g As H.size q v fm As.toArray U := fun U hU hW => ⟨hpre U hU hW, hS.go (fun a h5 h6 => h4.2.1 a h5 h6) hF hU hW⟩
  have hrc : ∃ cell : Cell, H[q]? = some cell ∧ cell.vm.isStatics = false ∧ s.vm.findClass RJ0 = some cell.cls := by
    obtain ⟨cell, e1, e2, e3, -⟩ := hS.2.1.kept (H1 := H) (fun a h5 h6 => h4.2.1 a h5 h6)
    exact ⟨cell, e1, e2, e3⟩
  have hr : va_Run p l e R s m args below meth c H locs cells slots 0 0 (F0 m pc ls st0) rest (PV (S := Unit) g post (fun _ => []) [] H.size As.toArray) (va_A [] H.size) := va_runS ⟨C.1, C.2.1, C.2.2.1, C.2.2.2.1, C.2.2.2.2.1⟩ (M H.size) (va_cwS n C.2.2.2.2.1 (good_S kw) rfl (Nat.eq_of_beq_eq_true hR3) (Nat.eq_of_beq_eq_true hR4) kw.2.2.2.2 ⟨Nat.le_of_ble_eq_true hR1, Nat.le_of_ble_eq_true hR2⟩) ⟨PRs.blind, hpr⟩ rfl hn h1.1 hst (lv_room (Nat.le_of_ble_eq_true hR5)) hd ⟨Nat.le_of_ble_eq_true hcs.1, Nat.le_of_ble_eq_true hcs.2⟩
  exact aft_v h1 h2 h3 h4 [] rfl hF hr (fun _ => rfl) (ws' := fun _ => ws) (fun _ => rfl) (fun u hx => k hx)
theorem k_Vsi {y : MethodName} {idx maxL n q v : Nat} {fm : Option Nat} {bytes : ByteArray} {ret' : Option FieldType} {rm : Room} {post : Int → Unit → Prop} {As rest st0 : List Value} (C : CX g own cc nL ret A p s m args meth c) (hS : STR q v fm A s s.heap) (kw : KV own idx RJ0 y bytes maxL ret' n) (M : ∀ sz, Met l y (.code y bytes maxL ret' :: wsL_law) rm (PRs g (.ref q :: As) sz q v fm) (PI (S := Unit) g post (fun _ => []) [] sz) 0 0 (va_A [] sz)) (hd : decode cc pc = .ok (.invokevirtual idx, 3)) (hn : As.length = n) (hst : st0 = As.reverse ++ .ref q :: rest) (hR : RM rm R maxL rest = true) (hcs : Nat.ble cells R.cells = true ∧ Nat.ble slots R.slots = true) (k : ∀ x : Int, post x () → RUN g nL p l e R s m args below meth c A cells slots Q ws (pc + 3) lv (vi x :: rest)) : RUN g nL p l e R s m args below meth c A cells slots Q ws pc lv st0 := fun ls H locs h1 h2 h3 h4 => by
  simp only [RM, Bool.and_eq_true] at hR
  obtain ⟨⟨⟨⟨hR1, hR2⟩, hR3⟩, hR4⟩, hR5⟩ := hR
  obtain ⟨hF, hpre⟩ := pre_call (wc := []) (av := (.ref q :: As)) C h2 h3 h4 [] rfl rfl
  have hpr : ∀ U : State, U.heap = H → s.WarmedH U.vm → PRs g (.ref q :: As) H.size q v fm (.ref q :: As).toArray U := fun U hU hW => ⟨hpre U hU hW, hS.go (fun a h5 h6 => h4.2.1 a h5 h6) hF hU hW⟩
  have hrc : ∃ cell : Cell, H[q]? = some cell ∧ cell.vm.isStatics = false ∧ s.vm.findClass RJ0 = some cell.cls := by
    obtain ⟨cell, e1, e2, e3, -⟩ := hS.2.1.kept (H1 := H) (fun a h5 h6 => h4.2.1 a h5 h6)
    exact ⟨cell, e1, e2, e3⟩
  have hr : va_Run p l e R s m args below meth c H locs cells slots 0 0 (F0 m pc ls st0) rest (PI (S := Unit) g post (fun _ => []) [] H.size (.ref q :: As).toArray) (va_A [] H.size) := va_runV ⟨C.1, C.2.1, C.2.2.1, C.2.2.2.1, C.2.2.2.2.1⟩ (M H.size) (cwV n C.2.2.2.2.1 (good_V kw) rfl (Nat.eq_of_beq_eq_true hR3) (Nat.eq_of_beq_eq_true hR4) kw.2.2.2.2.2 ⟨Nat.le_of_ble_eq_true hR1, Nat.le_of_ble_eq_true hR2⟩) ⟨PRs.blind, hrc, hpr⟩ rfl hn h1.1 hst (lv_room (Nat.le_of_ble_eq_true hR5)) hd ⟨Nat.le_of_ble_eq_true hcs.1, Nat.le_of_ble_eq_true hcs.2⟩
  exact aft_i h1 h2 h3 h4 [] rfl hF hr (fun _ => rfl) (ws' := fun _ => ws) (fun _ => rfl) (fun x u hx => k x hx)
end
theorem e_b {g : Gx} {own : String} {cc : ByteArray} {nL : Nat} {p : Program} {l : Launch} {e : Env} {R : Room} {s : State} {m : MethodId} {args : Array Value} {below : List Frame} {meth : Method} {c : Code} {wc : va_W} {sz : Nat} {ws : va_W} {pc : Nat} {lv : List (Nat × Value)} {S : Type} {Wf : S → va_W} {post : Int → S → Prop} (C : CX g own cc nL (some .byte) (va_A wc sz) p s m args meth c) {x : Int} (u : S) (hd : decode cc pc = .ok (.ireturn, 1)) (hx : narrow .byte (vi x) = vi x) (hp : post x u) (hw : Wf u = ws) : RUN g nL p l e R s m args below meth c (va_A wc sz) 0 0 (MQ below (PI g post Wf wc sz) args s 0 0 (va_A wc sz)) ws pc lv [vi x] := fun ls H locs h1 h2 h3 h4 => by
  subst hw
  exact W.zret C.1 C.2.1 C.2.2.2.2.2.2.2.1 hx (fun t ht hW => ⟨⟨zI x, u, rfl, ⟨x, rfl, hp⟩, by rw [ht]; exact h2, h3⟩, h4.F ht⟩) h4.2.2 hd C.2.2.2.2.2.2.2.2.1
set_option maxHeartbeats 1000000 in
theorem c_J0_coder_7d493 (l : Launch) (g : Gx) (q v : Nat) (fm : Option Nat)  (sz : Nat) : Met l yJ0_coder_7d493 (.code yJ0_coder_7d493 cJ0_coder_7d493 1 (some .byte) :: wsL_law) { frames := 0, cells := 0, slots := 0, locals := 0 } (PRs g [.ref q] sz q v fm) (PI (S := Unit) g (fun r _ => r = 0) (fun _ => []) [] sz) 0 0 (va_A [] sz) := by
  refine meetS (own := RJ0) rfl (by decide +kernel) rfl (fun p_ e_ s_ m_ args_ below_ meth_ c_ C hS => ?_)
  refine r_at (ws' := []) (lv' := [(0, .ref q)]) rfl rfl ?_
  obtain ⟨s1, s2, s3, s4, s5, s6, s7⟩ := id hS
  refine r_getsV C s6 (in_r7 (List.mem_of_getElem? (i := 5) rfl)) dJ0_coder_7d493_0 ?_
  refine r_if_eq C 13 dJ0_coder_7d493_3 rfl (by decide) (fun c => absurd c (by decide)) (fun _ => ?_)
  refine r_aload_n C dJ0_coder_7d493_6 0 rfl ?_
  refine r_getfO C s3 (in_r7 (List.mem_of_getElem? (i := 6) rfl)) dJ0_coder_7d493_7 ?_
  refine r_goto C 14 dJ0_coder_7d493_10 rfl ?_
  exact e_b C () dJ0_coder_7d493_14 rfl rfl rfl
set_option maxHeartbeats 1000000 in
theorem c_J0_isLatin1_aae02 (l : Launch) (g : Gx) (q v : Nat) (fm : Option Nat)  (sz : Nat) : Met l yJ0_isLatin1_aae02 (.code yJ0_isLatin1_aae02 cJ0_isLatin1_aae02 1 (some .boolean) :: wsL_law) { frames := 0, cells := 0, slots := 0, locals := 0 } (PRs g [.ref q] sz q v fm) (PI (S := Unit) g (fun r _ => r = 1) (fun _ => []) [] sz) 0 0 (va_A [] sz) := by
  refine meetS (own := RJ0) rfl (by decide +kernel) rfl (fun p_ e_ s_ m_ args_ below_ meth_ c_ C hS => ?_)
  refine r_at (ws' := []) (lv' := [(0, .ref q)]) rfl rfl ?_
  obtain ⟨s1, s2, s3, s4, s5, s6, s7⟩ := id hS
  refine r_getsV C s6 (in_r7 (List.mem_of_getElem? (i := 5) rfl)) dJ0_isLatin1_aae02_0 ?_
  refine r_if_eq C 17 dJ0_isLatin1_aae02_3 rfl (by decide) (fun c => absurd c (by decide)) (fun _ => ?_)
  refine r_aload_n C dJ0_isLatin1_aae02_6 0 rfl ?_
  refine r_getfO C s3 (in_r7 (List.mem_of_getElem? (i := 6) rfl)) dJ0_isLatin1_aae02_7 ?_
  refine r_if_ne C 17 dJ0_isLatin1_aae02_10 rfl (by decide) (fun c => absurd rfl c) (fun _ => ?_)
  refine r_iconst C dJ0_isLatin1_aae02_13 ?_
  refine r_goto C 18 dJ0_isLatin1_aae02_14 rfl ?_
  exact e_z C () dJ0_isLatin1_aae02_18 (Or.inr rfl) rfl rfl
set_option maxHeartbeats 1000000 in
theorem c_J3_checkIndex_8e157 (l : Launch) (g : Gx) (q v : Nat) (fm : Option Nat) (a : Nat) (i n : Int) (hi : 0 ≤ i ∧ i < n ∧ n ≤ 100000) (sz : Nat) : Met l yJ3_checkIndex_8e157 (.code yJ3_checkIndex_8e157 cJ3_checkIndex_8e157 3 (some .int) :: wsL_law) { frames := 0, cells := 0, slots := 0, locals := 0 } (PRs g [vi i, vi n, .ref a] sz q v fm) (PI (S := Unit) g (fun r _ => r = i) (fun _ => []) [] sz) 0 0 (va_A [] sz) := by
  refine meetS (own := RJ3) rfl (by decide +kernel) rfl (fun p_ e_ s_ m_ args_ below_ meth_ c_ C hS => ?_)
  refine r_at (ws' := []) (lv' := [(0, vi i), (1, vi n), (2, .ref a)]) rfl rfl ?_
  obtain ⟨s1, s2, s3, s4, s5, s6, s7⟩ := id hS
  refine r_iload_n C dJ3_checkIndex_8e157_0 0 rfl ?_
  refine r_if_lt C 9 dJ3_checkIndex_8e157_1 rfl (by omega) (fun c => absurd c (by omega)) (fun _ => ?_)
  refine r_iload_n C dJ3_checkIndex_8e157_4 0 rfl ?_
  refine r_iload_n C dJ3_checkIndex_8e157_5 1 rfl ?_
  refine r_icmp_lt C 16 dJ3_checkIndex_8e157_6 rfl (by omega) (fun _ => ?_) (fun c => absurd hi.2.1 c)
  refine r_iload_n C dJ3_checkIndex_8e157_16 0 rfl ?_
  exact e_i C () dJ3_checkIndex_8e157_17 rfl rfl
set_option maxHeartbeats 1000000 in
theorem c_J3_checkIndex_8e157_n (l : Launch) (g : Gx) (q v : Nat) (fm : Option Nat) (i n : Int) (hi : 0 ≤ i ∧ i < n ∧ n ≤ 100000) (sz : Nat) : Met l yJ3_checkIndex_8e157 (.code yJ3_checkIndex_8e157 cJ3_checkIndex_8e157 3 (some .int) :: wsL_law) { frames := 0, cells := 0, slots := 0, locals := 0 } (PRs g [vi i, vi n, .null] sz q v fm) (PI (S := Unit) g (fun r _ => r = i) (fun _ => []) [] sz) 0 0 (va_A [] sz) := by
  refine meetS (own := RJ3) rfl (by decide +kernel) rfl (fun p_ e_ s_ m_ args_ below_ meth_ c_ C hS => ?_)
  refine r_at (ws' := []) (lv' := [(0, vi i), (1, vi n), (2, .null)]) rfl rfl ?_
  obtain ⟨s1, s2, s3, s4, s5, s6, s7⟩ := id hS
  refine r_iload_n C dJ3_checkIndex_8e157_0 0 rfl ?_
  refine r_if_lt C 9 dJ3_checkIndex_8e157_1 rfl (by omega) (fun c => absurd c (by omega)) (fun _ => ?_)
  refine r_iload_n C dJ3_checkIndex_8e157_4 0 rfl ?_
  refine r_iload_n C dJ3_checkIndex_8e157_5 1 rfl ?_
  refine r_icmp_lt C 16 dJ3_checkIndex_8e157_6 rfl (by omega) (fun _ => ?_) (fun c => absurd hi.2.1 c)
  refine r_iload_n C dJ3_checkIndex_8e157_16 0 rfl ?_
  exact e_i C () dJ3_checkIndex_8e157_17 rfl rfl
set_option maxHeartbeats 1000000 in
theorem c_J0_checkIndex_df160 (l : Launch) (g : Gx) (q v : Nat) (fm : Option Nat) (i n : Int) (hi : 0 ≤ i ∧ i < n ∧ n ≤ 100000) (sz : Nat) : Met l yJ0_checkIndex_df160 (.code yJ0_checkIndex_df160 cJ0_checkIndex_df160 2 none :: wsL_law) { frames := 1, cells := 0, slots := 0, locals := 22 } (PRs g [vi i, vi n] sz q v fm) (PV (S := Unit) g (fun _ => True) (fun _ => []) [] sz) 0 0 (va_A [] sz) := by
  refine meetS (own := RJ0) rfl (by decide +kernel) rfl (fun p_ e_ s_ m_ args_ below_ meth_ c_ C hS => ?_)
  refine r_at (ws' := []) (lv' := [(0, vi i), (1, vi n)]) rfl rfl ?_
  obtain ⟨s1, s2, s3, s4, s5, s6, s7⟩ := id hS
  refine r_iload_n C dJ0_checkIndex_df160_0 0 rfl ?_
  refine r_iload_n C dJ0_checkIndex_df160_1 1 rfl ?_
  refine r_getsV C s7 (in_r7 (List.mem_of_getElem? (i := 22) rfl)) dJ0_checkIndex_df160_2 ?_
  rcases fm with _ | a
  · refine k_Ssi C hS ks_J0_1059 (As := [vi i, vi n, .null]) (fun sz => c_J3_checkIndex_8e157_n l g q v none i n hi sz) dJ0_checkIndex_df160_5 rfl rfl rfl ⟨rfl, rfl⟩ (fun x hx => ?_)
    refine r_pop C dJ0_checkIndex_df160_8 rfl ?_
    exact e_v C () dJ0_checkIndex_df160_9 trivial rfl
  · refine k_Ssi C hS ks_J0_1059 (As := [vi i, vi n, .ref a]) (fun sz => c_J3_checkIndex_8e157 l g q v (some a) a i n hi sz) dJ0_checkIndex_df160_5 rfl rfl rfl ⟨rfl, rfl⟩ (fun x hx => ?_)
    refine r_pop C dJ0_checkIndex_df160_8 rfl ?_
    exact e_v C () dJ0_checkIndex_df160_9 trivial rfl
set_option maxHeartbeats 1000000 in
theorem c_J1_charAt_3b067 (l : Launch) (g : Gx) (q v : Nat) (fm : Option Nat) (i : Int) (hi : 0 ≤ i ∧ i < 153) (sz : Nat) : Met l yJ1_charAt_3b067 (.code yJ1_charAt_3b067 cJ1_charAt_3b067 2 (some .char) :: wsL_law) { frames := 2, cells := 0, slots := 0, locals := 43 } (PRs g [.ref v, vi i] sz q v fm) (PI (S := Unit) g (fun r _ => r = ch0 i) (fun _ => []) [] sz) 0 0 (va_A [] sz) := by
  refine meetS (own := RJ1) rfl (by decide +kernel) rfl (fun p_ e_ s_ m_ args_ below_ meth_ c_ C hS => ?_)
  refine r_at (ws' := []) (lv' := [(0, .ref v), (1, vi i)]) rfl rfl ?_
  obtain ⟨s1, s2, s3, s4, s5, s6, s7⟩ := id hS
  have hb := ch0_b i
  refine r_iload_n C dJ1_charAt_3b067_0 1 rfl ?_
  refine r_aload_n C dJ1_charAt_3b067_1 0 rfl ?_
  refine r_tlen C (n := 153) s5 rfl dJ1_charAt_3b067_2 ?_
  refine k_Ssv C hS ks_J1_9 (As := [vi i, vi 153]) (fun sz => c_J0_checkIndex_df160 l g q v fm i 153 (by omega) sz) dJ1_charAt_3b067_3 rfl rfl rfl ⟨rfl, rfl⟩ (fun _ => ?_)
  refine r_aload_n C dJ1_charAt_3b067_6 0 rfl ?_
  refine r_iload_n C dJ1_charAt_3b067_7 1 rfl ?_
  refine r_tbld C (x := ch0 i) s5 rfl (by omega) (by rw [Int.toNat_of_nonneg hi.1]) dJ1_charAt_3b067_8 ?_
  refine r_sipush C dJ1_charAt_3b067_9 rfl ?_
  refine r_iand C (z := ch0 i) dJ1_charAt_3b067_12 (z_255 hb) ?_
  refine r_i2c C dJ1_charAt_3b067_13 (zI_i2c (by omega)) ?_
  exact e_c C () dJ1_charAt_3b067_14 (nar_c2 (by omega)) rfl rfl
set_option maxHeartbeats 1000000 in
theorem c_J0_charAt_5068e (l : Launch) (g : Gx) (q v : Nat) (fm : Option Nat) (i : Int) (hi : 0 ≤ i ∧ i < 153) (sz : Nat) : Met l yJ0_charAt_5068e (.code yJ0_charAt_5068e cJ0_charAt_5068e 2 (some .char) :: wsL_law) { frames := 3, cells := 0, slots := 0, locals := 64 } (PRs g [.ref q, vi i] sz q v fm) (PI (S := Unit) g (fun r _ => r = ch0 i) (fun _ => []) [] sz) 0 0 (va_A [] sz) := by
  refine meetS (own := RJ0) rfl (by decide +kernel) rfl (fun p_ e_ s_ m_ args_ below_ meth_ c_ C hS => ?_)
  refine r_at (ws' := []) (lv' := [(0, .ref q), (1, vi i)]) rfl rfl ?_
  obtain ⟨s1, s2, s3, s4, s5, s6, s7⟩ := id hS
  have hb := ch0_b i
  refine r_aload_n C dJ0_charAt_5068e_0 0 rfl ?_
  refine k_Vsi C hS kv_J0_492 (As := []) (fun sz => c_J0_isLatin1_aae02 l g q v fm sz) dJ0_charAt_5068e_1 rfl rfl rfl ⟨rfl, rfl⟩ (fun x hx => ?_)
  refine r_eq (y := 1) hx ?_
  refine r_if_eq C 16 dJ0_charAt_5068e_4 rfl (by decide) (fun c => absurd c (by decide)) (fun _ => ?_)
  refine r_aload_n C dJ0_charAt_5068e_7 0 rfl ?_
  refine r_getfO C s4 (in_r7 (List.mem_of_getElem? (i := 0) rfl)) dJ0_charAt_5068e_8 ?_
  refine r_iload_n C dJ0_charAt_5068e_11 1 rfl ?_
  refine k_Ssi C hS ks_J0_495 (As := [.ref v, vi i]) (fun sz => c_J1_charAt_3b067 l g q v fm i hi sz) dJ0_charAt_5068e_12 rfl rfl rfl ⟨rfl, rfl⟩ (fun x hx => ?_)
  refine r_eq (y := ch0 i) hx ?_
  exact e_c C () dJ0_charAt_5068e_15 (nar_c2 (by omega)) rfl rfl
set_option maxHeartbeats 1000000 in
theorem c_J0_length_8abf5 (l : Launch) (g : Gx) (q v : Nat) (fm : Option Nat)  (sz : Nat) : Met l yJ0_length_8abf5 (.code yJ0_length_8abf5 cJ0_length_8abf5 1 (some .int) :: wsL_law) { frames := 1, cells := 0, slots := 0, locals := 20 } (PRs g [.ref q] sz q v fm) (PI (S := Unit) g (fun r _ => r = 153) (fun _ => []) [] sz) 0 0 (va_A [] sz) := by
  refine meetS (own := RJ0) rfl (by decide +kernel) rfl (fun p_ e_ s_ m_ args_ below_ meth_ c_ C hS => ?_)
  refine r_at (ws' := []) (lv' := [(0, .ref q)]) rfl rfl ?_
  obtain ⟨s1, s2, s3, s4, s5, s6, s7⟩ := id hS
  refine r_aload_n C dJ0_length_8abf5_0 0 rfl ?_
  refine r_getfO C s4 (in_r7 (List.mem_of_getElem? (i := 0) rfl)) dJ0_length_8abf5_1 ?_
  refine r_tlen C (n := 153) s5 rfl dJ0_length_8abf5_4 ?_
  refine r_aload_n C dJ0_length_8abf5_5 0 rfl ?_
  refine k_Vsi C hS kv_J0_335 (As := []) (fun sz => c_J0_coder_7d493 l g q v fm sz) dJ0_length_8abf5_6 rfl rfl rfl ⟨rfl, rfl⟩ (fun x hx => ?_)
  refine r_eq (y := 0) hx ?_
  refine r_ishr C (z := 153) dJ0_length_8abf5_9 rfl ?_
  exact e_i C () dJ0_length_8abf5_10 rfl rfl
