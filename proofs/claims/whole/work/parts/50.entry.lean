/-! THE CLAIM OUT OF ONE WALK OF THE LAW'S BODY. Your part is whole_start (and what it stands on); all else here is the same for every law, but numbers. -/
def R_law : String := "EdgeStencilLaw"
def lw_P (b : Addr) (xs : List Int32) (args : Array Value) (s : State) : Prop := args = #[.ref b] ∧ s.IntsAt b xs ∧ xs.length ≤ 2048 ∧ (Jvm.Cond.and given_1 narrow_1).before args s = true
def lw_Q (_ : Array Value) (s : State) (o : Outcome) (t : State) : Prop := o = .returned (some (.int 1)) ∧ Framed s o t [] 600000 7302250
def lw_Z (below : List Frame) (a : Array Value) (s : State) : State → Prop := fun t => ∃ o, t.status = .running ∧ Ended t below o ∧ lw_Q a s o t
/-- the law's own end, with 1 on the stack, nothing written that was there before, its room as the claim has it -/
theorem lw_ret {p : Program} {l : Launch} {e : Env} {s : State} {m : MethodId} {below : List Frame} {meth : Method} {c : Code} {b : Nat} (hx : p.tables.exec = Jvm.exec) (hb : c.code = code) (hr : meth.sig.returnType = ret) (hlocks : meth.locks = false) {pc : Nat} {H : Heap} {ls : Array Slot} (hdg : decode code pc = .ok (.ireturn, 1)) : W p l e room_1 s m #[Value.ref b] below meth c H [] 600000 7302250 (lw_Z below #[Value.ref b] s) (F0 m pc ls [.int 1]) := by
  intro T hT X
  obtain ⟨fs, hret, hrun, hended, hW, hframe⟩ := X.leave (v := some (.int 1)) (hlocks := hlocks) (fun h => by rw [hr] at h; cases h)
  have hmeth' : T.vm.method? m = some meth := X.method'
  refine ⟨T.setFrames fs, ?_, .returned (some (.int 1)), hrun, hended, rfl, ⟨_, rfl⟩, hW, hframe⟩
  jvm_step X.here [X.here.top, hx, hb, hdg, hmeth', hr, ret, narrow_b1]
  (try refine ⟨rfl, ?_⟩); (try refine ⟨rfl, ?_⟩)
  first | (intro acts; rw [hret _ acts rfl rfl rfl]) | rw [hret _ _ rfl rfl rfl]
  exact Steps.refl _
/-- what holds at the law's entry: the machine, the code, the tables' words (any of lw_tbl by 'hts w (by decide +kernel)'), the script of L ints xs at the cell b, what the Statement gives of the start (any of its parts by flat_of_before) -/
def lw_At (p : Program) (s : State) (m : MethodId) (meth : Method) (c : Code) (b L : Nat) (xs : Nat → Int32) : Prop :=
  p.tables.exec = Jvm.exec ∧ c.code = code ∧ meth.sig.returnType = ret ∧ c.maxLocals = 4 ∧ s.vm.findClass R_law = some m.cls ∧ (∀ w ∈ lw_tbl, w.before #[Value.ref b] s = true) ∧ va_X b L xs s s.heap ∧ b < s.heap.size ∧ meth.locks = false ∧ (Jvm.Cond.and given_1 narrow_1).before #[Value.ref b] s = true
theorem nF_in : ∀ q ∈ nwF, Cond.fieldLinkNest q.1 q.2.1 q.2.2.1 q.2.2.2.1 q.2.2.2.2.1 q.2.2.2.2.2 ∈ lw_tbl := List.forall_mem_cons.mpr ⟨(tb1 36 rfl), List.forall_mem_cons.mpr ⟨(tb1 37 rfl), List.forall_mem_cons.mpr ⟨(tb1 57 rfl), List.forall_mem_cons.mpr ⟨(tb1 58 rfl), List.forall_mem_cons.mpr ⟨(tb1 59 rfl), List.forall_mem_cons.mpr ⟨(tb1 60 rfl), List.forall_mem_cons.mpr ⟨(tb1 62 rfl), List.forall_mem_cons.mpr ⟨(tb1 63 rfl), List.forall_mem_cons.mpr ⟨(tb1 64 rfl), List.forall_mem_cons.mpr ⟨(tb1 65 rfl), List.forall_mem_cons.mpr ⟨(tb1 67 rfl), List.forall_mem_cons.mpr ⟨(tb1 68 rfl), List.forall_mem_cons.mpr ⟨(tb1 70 rfl), List.forall_mem_cons.mpr ⟨(tb1 72 rfl), List.forall_mem_cons.mpr ⟨(tb1 74 rfl), List.forall_mem_cons.mpr ⟨(tb1 75 rfl), List.forall_mem_cons.mpr ⟨(tb1 76 rfl), List.forall_mem_cons.mpr ⟨(tb1 78 rfl), List.forall_mem_cons.mpr ⟨(tb1 79 rfl), List.forall_mem_cons.mpr ⟨(tb1 80 rfl), List.forall_mem_cons.mpr ⟨(tb1 82 rfl), List.forall_mem_cons.mpr ⟨(tb1 83 rfl), List.forall_mem_cons.mpr ⟨(tb1 84 rfl), List.forall_mem_cons.mpr ⟨(tb1 104 rfl), List.forall_mem_cons.mpr ⟨(tb1 106 rfl), List.forall_mem_cons.mpr ⟨(tb1 130 rfl), List.forall_mem_cons.mpr ⟨(tb1 147 rfl), List.forall_mem_cons.mpr ⟨(tb1 149 rfl), List.forall_mem_cons.mpr ⟨(tb1 151 rfl), List.forall_mem_cons.mpr ⟨(tb1 152 rfl), List.forall_mem_cons.mpr ⟨(tb1 167 rfl), List.forall_mem_cons.mpr ⟨(tb1 169 rfl), List.forall_mem_cons.mpr ⟨(tb1 171 rfl), List.forall_mem_cons.mpr ⟨(tb1 192 rfl), List.forall_mem_cons.mpr ⟨(tb1 193 rfl), List.forall_mem_cons.mpr ⟨(tb1 194 rfl), List.forall_mem_cons.mpr ⟨(tb1 196 rfl), List.forall_mem_cons.mpr ⟨(tb1 197 rfl), List.forall_mem_cons.mpr ⟨(tb1 198 rfl), List.forall_mem_cons.mpr ⟨(tb1 200 rfl), List.forall_mem_cons.mpr ⟨(tb1 201 rfl), List.forall_mem_cons.mpr ⟨(tb1 202 rfl), List.forall_mem_cons.mpr ⟨(tb1 229 rfl), List.forall_mem_cons.mpr ⟨(tb1 230 rfl), List.forall_mem_cons.mpr ⟨(tb1 232 rfl), List.forall_mem_cons.mpr ⟨(tb1 233 rfl), List.forall_mem_cons.mpr ⟨(tb1 235 rfl), List.forall_mem_cons.mpr ⟨(tb1 237 rfl), List.forall_mem_cons.mpr ⟨(tb2 10 rfl), List.forall_mem_cons.mpr ⟨(tb2 12 rfl), List.forall_mem_cons.mpr ⟨(tb2 16 rfl), List.forall_mem_cons.mpr ⟨(tb2 18 rfl), List.forall_mem_cons.mpr ⟨(tb2 51 rfl), fun _ h => absurd h List.not_mem_nil⟩⟩⟩⟩⟩⟩⟩⟩⟩⟩⟩⟩⟩⟩⟩⟩⟩⟩⟩⟩⟩⟩⟩⟩⟩⟩⟩⟩⟩⟩⟩⟩⟩⟩⟩⟩⟩⟩⟩⟩⟩⟩⟩⟩⟩⟩⟩⟩⟩⟩⟩⟩⟩
theorem nM_in : ∀ q ∈ nwM, Cond.methodLinkNest q.1 q.2.1 q.2.2.1 q.2.2.2 ∈ lw_tbl := List.forall_mem_cons.mpr ⟨(tb1 30 rfl), List.forall_mem_cons.mpr ⟨(tb1 46 rfl), List.forall_mem_cons.mpr ⟨(tb1 52 rfl), List.forall_mem_cons.mpr ⟨(tb1 116 rfl), List.forall_mem_cons.mpr ⟨(tb1 125 rfl), List.forall_mem_cons.mpr ⟨(tb1 142 rfl), List.forall_mem_cons.mpr ⟨(tb1 162 rfl), List.forall_mem_cons.mpr ⟨(tb1 181 rfl), List.forall_mem_cons.mpr ⟨(tb1 187 rfl), List.forall_mem_cons.mpr ⟨(tb1 224 rfl), List.forall_mem_cons.mpr ⟨(tb2 41 rfl), List.forall_mem_cons.mpr ⟨(tb2 43 rfl), List.forall_mem_cons.mpr ⟨(tb2 46 rfl), List.forall_mem_cons.mpr ⟨(tb2 131 rfl), List.forall_mem_cons.mpr ⟨(tb3 82 rfl), fun _ h => absurd h List.not_mem_nil⟩⟩⟩⟩⟩⟩⟩⟩⟩⟩⟩⟩⟩⟩⟩
theorem noA {sz a : Nat} (h : a < sz) : ¬ va_A [] sz a := by
  rintro (⟨k, e, h1⟩ | h1)
  · simp at h1
  · omega
theorem arK {args : Array Value} {s : State} {ty : FieldType} (h : (Cond.arrayClass ty).before args s = true) : ∃ cA : ClassId, ArrOfT s cA ty ∧ s.vm.findClass ("[" ++ ty.toString) = some cA := by
  obtain ⟨c, k, comp, h1, h2, h3⟩ := Cond.arrayClass_spec h
  exact ⟨c, fun n z => ⟨fun k h => (by cases h), k, h2, comp, h3⟩, h1⟩
theorem arQ {args : Array Value} {s : State} {C : String} (h : (Cond.arrayOver (.object C)).before args s = true) : ∃ cA : ClassId, ArrOfT s cA (.object C) ∧ va_RA s cA (.object C) := by
  obtain ⟨comp, c, k, h1, h2, h3, h4, h5⟩ := Cond.arrayOver_spec h
  exact ⟨c, fun n z => ⟨fun k h => (by cases h), k, h3, comp, h4⟩, k, comp, h3, h4, h1, h5⟩
theorem k_cl1 {args : Array Value} {s : State} (hw : ∀ w ∈ wsL_law, w.before args s = true) (i : Nat) : ∃ (cC : ClassId) (iS : Nat → Nat), ∀ q : vw_C, vwCl[i]? = some q → u_Kn s q.1 q.2.1 q.2.2 cC iS := by
  by_cases hi : 12 ≤ i
  · refine ⟨0, fun _ => 0, fun q hq => ?_⟩
    rw [List.getElem?_eq_none (show vwCl.length ≤ i from hi)] at hq
    cases hq
  rcases (show i = 0 ∨ i = 1 ∨ i = 2 ∨ i = 3 ∨ i = 4 ∨ i = 5 ∨ i = 6 ∨ i = 7 ∨ i = 8 ∨ i = 9 ∨ i = 10 ∨ i = 11 by omega) with rfl | rfl | rfl | rfl | rfl | rfl | rfl | rfl | rfl | rfl | rfl | rfl
  · obtain ⟨cC, iS, h⟩ := u_known hw inlX0 (hw _ (in_r2 (List.mem_of_getElem? (i := 5) rfl)))
    exact ⟨cC, iS, fun q hq => by obtain rfl := Option.some.inj hq; exact h⟩
  · obtain ⟨cC, iS, h⟩ := u_known hw inlX1 (hw _ (in_r2 (List.mem_of_getElem? (i := 9) rfl)))
    exact ⟨cC, iS, fun q hq => by obtain rfl := Option.some.inj hq; exact h⟩
  · obtain ⟨cC, iS, h⟩ := u_known hw inlX2 (hw _ (in_r2 (List.mem_of_getElem? (i := 21) rfl)))
    exact ⟨cC, iS, fun q hq => by obtain rfl := Option.some.inj hq; exact h⟩
  · obtain ⟨cC, iS, h⟩ := u_known hw inlX3 (hw _ (in_r2 (List.mem_of_getElem? (i := 1) rfl)))
    exact ⟨cC, iS, fun q hq => by obtain rfl := Option.some.inj hq; exact h⟩
  · obtain ⟨cC, iS, h⟩ := u_known hw inlX5 (hw _ (in_r2 (List.mem_of_getElem? (i := 13) rfl)))
    exact ⟨cC, iS, fun q hq => by obtain rfl := Option.some.inj hq; exact h⟩
  · obtain ⟨cC, iS, h⟩ := u_known hw inlX6 (hw _ (in_r1 (List.mem_of_getElem? (i := 17) rfl)))
    exact ⟨cC, iS, fun q hq => by obtain rfl := Option.some.inj hq; exact h⟩
  · obtain ⟨cC, iS, h⟩ := u_known hw inlX7 (hw _ (in_r1 (List.mem_of_getElem? (i := 21) rfl)))
    exact ⟨cC, iS, fun q hq => by obtain rfl := Option.some.inj hq; exact h⟩
  · obtain ⟨cC, iS, h⟩ := u_known hw inlX8 (hw _ (in_r1 (List.mem_of_getElem? (i := 13) rfl)))
    exact ⟨cC, iS, fun q hq => by obtain rfl := Option.some.inj hq; exact h⟩
  · obtain ⟨cC, iS, h⟩ := u_known hw inlX9 (hw _ (in_r2 (List.mem_of_getElem? (i := 17) rfl)))
    exact ⟨cC, iS, fun q hq => by obtain rfl := Option.some.inj hq; exact h⟩
  · obtain ⟨cC, iS, h⟩ := u_known hw inlX10 (hw _ (in_r3 (List.mem_of_getElem? (i := 1) rfl)))
    exact ⟨cC, iS, fun q hq => by obtain rfl := Option.some.inj hq; exact h⟩
  · obtain ⟨cC, iS, h⟩ := u_known hw inlX11 (hw _ (in_r1 (List.mem_of_getElem? (i := 1) rfl)))
    exact ⟨cC, iS, fun q hq => by obtain rfl := Option.some.inj hq; exact h⟩
  · obtain ⟨cC, iS, h⟩ := u_known hw inlX12 (hw _ (in_r1 (List.mem_of_getElem? (i := 4) rfl)))
    exact ⟨cC, iS, fun q hq => by obtain rfl := Option.some.inj hq; exact h⟩
theorem k_cl {args : Array Value} {s : State} (hw : ∀ w ∈ wsL_law, w.before args s = true) : ∃ D : va_G, ∀ (c : Nat) (q : vw_C), vwCl[c]? = some q → u_Kn s q.1 q.2.1 q.2.2 (D.1 c) (D.2 c) :=
  ⟨(fun i => Classical.choose (k_cl1 hw i), fun i => Classical.choose (Classical.choose_spec (k_cl1 hw i))), fun i q hq => Classical.choose_spec (Classical.choose_spec (k_cl1 hw i)) q hq⟩
def flT : Term := .field (.string RX11 96) RJ0 "value" "[B"
def flq (j : Nat) : Cond := Cond.eq (.elem flT (.int (Int32.ofNat j))) (.int (zI (ch0 (j : Int))))
theorem fl_in : ∀ j : Fin 153, (flatC (Cond.and given_1 narrow_1))[25 + (j : Nat)]? = some (flq (j : Nat)) := by decide +kernel
theorem zg_at {args : Array Value} {s : State} {A : Nat → Prop} (hts : ∀ w ∈ lw_tbl, w.before args s = true) (hf : ∀ c ∈ flatC (Cond.and given_1 narrow_1), c.before args s = true) (hA : ∀ a : Nat, a < s.heap.size → ¬ A a) : ZG A s s.heap := by
  obtain ⟨a1, e1, t1⟩ := va_Tof (tm := .static RX1 "STRAIGHT_STEP" "[I") (ty := .int) (N := 3) (f := stp1) (by decide) (hf _ (List.mem_of_getElem? (i := 10) rfl)) (va_eqt (hf _ (List.mem_of_getElem? (i := 11) rfl))) (fun j hj => by
    rcases (show j = 0 ∨ j = 1 ∨ j = 2 by omega) with rfl | rfl | rfl
    · exact va_eqt (hf _ (List.mem_of_getElem? (i := 12) rfl))
    · exact va_eqt (hf _ (List.mem_of_getElem? (i := 13) rfl))
    · exact va_eqt (hf _ (List.mem_of_getElem? (i := 14) rfl))) hA
  obtain ⟨a2, e2, t2⟩ := va_Tof (tm := .static RX1 "SLANTED_STEP" "[I") (ty := .int) (N := 3) (f := stp2) (by decide) (hf _ (List.mem_of_getElem? (i := 16) rfl)) (va_eqt (hf _ (List.mem_of_getElem? (i := 17) rfl))) (fun j hj => by
    rcases (show j = 0 ∨ j = 1 ∨ j = 2 by omega) with rfl | rfl | rfl
    · exact va_eqt (hf _ (List.mem_of_getElem? (i := 18) rfl))
    · exact va_eqt (hf _ (List.mem_of_getElem? (i := 19) rfl))
    · exact va_eqt (hf _ (List.mem_of_getElem? (i := 20) rfl))) hA
  exact ⟨a1, a2, va_Zof (hts _ (tb3 84 rfl)) (hts _ (tb1 7 rfl)) e1 hA, t1, va_Zof (hts _ (tb3 86 rfl)) (hts _ (tb1 7 rfl)) e2 hA, t2⟩
theorem str_at {args : Array Value} {s : State} {A : Nat → Prop} (hts : ∀ w ∈ lw_tbl, w.before args s = true) (hf : ∀ c ∈ flatC (Cond.and given_1 narrow_1), c.before args s = true) (hA : ∀ a : Nat, a < s.heap.size → ¬ A a) : ∃ (q v : Nat) (fm : Option Nat), STR q v fm A s s.heap := by
  obtain ⟨q, c, cell, k, h1, h2, h3, h4, h5, h6, -⟩ := Cond.exactly_spec (hf (Cond.exactly (.string RX11 96) RJ0) (List.mem_of_getElem? (i := 21) rfl))
  obtain ⟨v, e1, t1⟩ := va_Tof (tm := flT) (ty := .byte) (N := 153) (f := fun j => vi (ch0 (j : Int))) (by decide) (hf _ (List.mem_of_getElem? (i := 23) rfl)) (va_eqt (hf _ (List.mem_of_getElem? (i := 24) rfl))) (fun j hj => va_eqt (hf _ (List.mem_of_getElem? (fl_in ⟨j, hj⟩)))) hA
  obtain ⟨w, e2, e3⟩ := Cond.isRef_spec (hf (Cond.isRef (.static "jdk/internal/util/Preconditions" "SIOOBE_FORMATTER" "Ljava/util/function/BiFunction;")) (List.mem_of_getElem? (i := 5) rfl))
  obtain ⟨fm, rfl⟩ : ∃ fm : Option Nat, w = rf fm := by
    cases w with
    | ref a => exact ⟨some a, rfl⟩
    | null => exact ⟨none, rfl⟩
    | _ => simp [Value.isRef] at e3
  have hq : q < s.heap.size := (Array.getElem?_eq_some_iff.mp h3).1
  exact ⟨q, v, fm, vk_R.of (hts _ (tb2 55 rfl)) h1, ⟨cell, h3, h5, by rw [h6]; exact h2, hA q hq⟩, vk_OFof h1 (va_eqt (hf (Cond.eq (.field (.string RX11 96) RJ0 "coder" "B") (.int 0)) (List.mem_of_getElem? (i := 22) rfl))) hA, vk_OFof h1 e1 hA, t1, va_Zof (hts _ (tb2 65 rfl)) (hts _ (tb1 12 rfl)) (va_eqi (hf (Cond.eq (.static RJ0 "COMPACT_STRINGS" "Z") (.int 1)) (List.mem_of_getElem? (i := 4) rfl))) hA, va_Zof (hts _ (tb2 81 rfl)) (hts _ (tb1 14 rfl)) e2 hA⟩
theorem at_entry {p : Program} {s : State} {m : MethodId} {meth : Method} {c : Code} {b L : Nat} {xs : Nat → Int32} (C0 : lw_At p s m meth c b L xs) : ∃ g : Gx, CX g RL cL_law 4 ret (va_A [] s.heap.size) p s m #[Value.ref b] meth c ∧ va_AO RX7 s ∧ ∃ (q v : Nat) (fm : Option Nat), STR q v fm (va_A [] s.heap.size) s s.heap := by
  obtain ⟨hx, hb, hr, hml, hown, hts, hX, hbl, hlk, hgv⟩ := C0
  have hw : ∀ w ∈ wsL_law, w.before #[Value.ref b] s = true := fun w h => hts w (it_law w h)
  have hf := flat_of_before _ hgv
  have hA : ∀ a : Nat, a < s.heap.size → ¬ va_A [] s.heap.size a := fun a h => noA h
  obtain ⟨D, hD⟩ := k_cl hw
  obtain ⟨c1, k1, f1⟩ := arK (hts (Cond.arrayClass .char) (tb1 43 rfl))
  obtain ⟨c2, k2, f2⟩ := arK (hts (Cond.arrayClass .int) (tb1 102 rfl))
  obtain ⟨c3, k3, f3⟩ := arK (hts (Cond.arrayClass .boolean) (tb2 39 rfl))
  have hao := hts (Cond.arrayOver (.object RX7)) (tb1 124 rfl)
  obtain ⟨c4, k4, f4⟩ := arQ hao
  refine ⟨(D, c1, c2, c3, c4), ⟨hx, hb, hml, hown, hw, ⟨hD, fun k q hq => ?_⟩, ⟨fun q hq => va_Nw.of rfl (hts _ (nF_in q hq)), fun q hq => va_Nw.of rfl (hts _ (nM_in q hq))⟩, hr, hlk, fun q h => Or.inr h, zg_at hts hf hA⟩, va_AO.of hao, str_at hts hf hA⟩
  rcases k with _ | _ | _ | _ | k
  · obtain rfl := Option.some.inj hq
    exact ⟨k1, f1⟩
  · obtain rfl := Option.some.inj hq
    exact ⟨k2, f2⟩
  · obtain rfl := Option.some.inj hq
    exact ⟨k3, f3⟩
  · obtain rfl := Option.some.inj hq
    exact ⟨k4, f4⟩
  · simp [tyG] at hq
