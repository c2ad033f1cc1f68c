/-! ===== numbers: an int as zI of an integer ===== -/
def zI (x : Int) : Int32 := Int32.ofInt x
abbrev vi (x : Int) : Value := .int (zI x)
def zR (f : Int → Int) : Nat → Int32 := fun j => zI (f (j : Int))
def zU (f : Int → Int) (i v : Int) : Int → Int := fun k => if k = i then v else f k
theorem zU_eq (f : Int → Int) (i v : Int) : zU f i v i = v := if_pos rfl
theorem zU_ne (f : Int → Int) {i k : Int} (v : Int) (h : k ≠ i) : zU f i v k = f k := if_neg h
theorem zI_toInt {x : Int} (h : -2147483648 ≤ x ∧ x ≤ 2147483647) : (zI x).toInt = x := Int32.toInt_ofInt_of_le (by omega) (by omega)
theorem zI_self (x : Int32) : zI x.toInt = x := Int32.ofInt_toInt x
theorem zI_lt {x y : Int} (h : -2147483648 ≤ x ∧ x ≤ 2147483647 ∧ -2147483648 ≤ y ∧ y ≤ 2147483647) : zI x < zI y ↔ x < y := by
  rw [Int32.lt_iff_toInt_lt, zI_toInt ⟨h.1, h.2.1⟩, zI_toInt h.2.2]
theorem zI_le {x y : Int} (h : -2147483648 ≤ x ∧ x ≤ 2147483647 ∧ -2147483648 ≤ y ∧ y ≤ 2147483647) : zI x ≤ zI y ↔ x ≤ y := by
  rw [Int32.le_iff_toInt_le, zI_toInt ⟨h.1, h.2.1⟩, zI_toInt h.2.2]
theorem zI_eq {x y : Int} (h : -2147483648 ≤ x ∧ x ≤ 2147483647 ∧ -2147483648 ≤ y ∧ y ≤ 2147483647) : zI x = zI y ↔ x = y := by
  rw [← Int32.toInt_inj, zI_toInt ⟨h.1, h.2.1⟩, zI_toInt h.2.2]
theorem zI_cl {i : Int} (h : 0 ≤ i ∧ i ≤ 2147483647) : (zI i).toNatClampNeg = i.toNat := Int32.toNatClampNeg_ofInt_of_le (by omega) (by omega)
theorem zI_add (x y : Int) : zI x + zI y = zI (x + y) := (Int32.ofInt_add x y).symm
theorem zI_sub (x y : Int) : zI x - zI y = zI (x - y) := (Int32.ofInt_sub x y).symm
theorem zI_mul (x y : Int) : zI x * zI y = zI (x * y) := (Int32.ofInt_mul x y).symm
theorem zI_neg (x : Int) : - zI x = zI (-x) := (Int32.ofInt_neg x).symm
theorem zI_nat (n : Nat) : Int32.ofNat n = zI (n : Int) := by
  unfold zI; simp [Int32.ofInt_eq_ofNat]
theorem zI_div {x y : Int} (h : 0 ≤ x ∧ x ≤ 2147483647 ∧ 0 < y ∧ y ≤ 2147483647) : zI x / zI y = zI (x / y) := by
  have hq : 0 ≤ x / y := Int.ediv_nonneg h.1 (by omega)
  have hq2 : x / y ≤ x := Int.ediv_le_self y h.1
  apply Int32.toInt_inj.mp
  rw [Int32.toInt_div_of_ne_right _ _ (by
    intro hh
    have := congrArg Int32.toInt hh
    rw [zI_toInt (by omega)] at this
    rw [show (-1 : Int32).toInt = -1 from rfl] at this
    omega), zI_toInt (by omega), zI_toInt (by omega), zI_toInt (by omega), Int.tdiv_eq_ediv_of_nonneg h.1]
theorem zI_rem {x y : Int} (h : 0 ≤ x ∧ x ≤ 2147483647 ∧ 0 < y ∧ y ≤ 2147483647) : zI x - zI x / zI y * zI y = zI (x % y) := by
  rw [zI_div h, zI_mul, zI_sub]
  congr 1
  have := Int.mul_ediv_add_emod x y
  rw [Int.mul_comm] at this
  omega
theorem zI_in {i : Int} {n : Nat} (hn : Nat.ble n 1000000 = true) (h : 0 ≤ i ∧ i < n) : vp_in (zI i) n := by
  have := Nat.le_of_ble_eq_true hn
  exact vp_in_iff.mpr (by rw [zI_toInt (by omega)]; exact h)
theorem zR_at {f : Int → Int} {i : Int} {n : Nat} (hn : Nat.ble n 1000000 = true) (h : 0 ≤ i ∧ i < n) : zR f (zI i).toNatClampNeg = zI (f i) := by
  have := Nat.le_of_ble_eq_true hn
  rw [zI_cl (by omega), zR, Int.toNat_of_nonneg h.1]
theorem zR_up {f : Int → Int} {i v : Int} {n : Nat} (hn : Nat.ble n 1000000 = true) (h : 0 ≤ i ∧ i < n) : upd (zR f) (zI i).toNatClampNeg (zI v) = zR (zU f i v) := by
  have := Nat.le_of_ble_eq_true hn
  funext j
  rw [zI_cl (by omega)]
  unfold upd zR zU
  by_cases hj : j = i.toNat
  · rw [if_pos hj, if_pos (by rw [hj]; exact Int.toNat_of_nonneg h.1)]
  · rw [if_neg hj, if_neg (by omega)]
theorem zR_of (r : Nat → Int32) : r = zR (fun k => (r k.toNat).toInt) := by
  funext j
  show r j = zI (r ((j : Int)).toNat).toInt
  rw [Int.toNat_natCast, zI_self]
theorem zI_b8 (n : Int) (h : (Int8.ofInt n).toInt32 = zI n) : (Int8.ofInt n).toInt32 = zI n := h
/-! ===== the tables: array classes, nest mates, statics ===== -/
abbrev Gx : Type := va_G × ClassId × ClassId × ClassId × ClassId
abbrev tyG (g : Gx) : List (ClassId × FieldType) := [(g.2.1, .char), (g.2.2.1, .int), (g.2.2.2.1, .boolean), (g.2.2.2.2, .object RX7)]
abbrev aC (g : Gx) (n : Nat) (f : Int → Int) : va_E := .inl (g.2.1, n, .inl (zR f))
abbrev aI (g : Gx) (n : Nat) (f : Int → Int) : va_E := .inl (g.2.2.1, n, .inl (zR f))
abbrev aZ (g : Gx) (n : Nat) (f : Int → Int) : va_E := .inl (g.2.2.2.1, n, .inl (zR f))
abbrev aQ (g : Gx) (n : Nat) (f : Nat → Option Nat) : va_E := .inl (g.2.2.2.2, n, .inr (.inr (.inr (.inr f))))
abbrev oB (ci : Nat) (fs : List Value) : va_E := .inr (ci, fs)
def Nst (U : State) : Prop := (∀ q ∈ nwF, va_Nw (.fieldLinkNest q.1 q.2.1 q.2.2.1 q.2.2.2.1 q.2.2.2.2.1 q.2.2.2.2.2) U) ∧ ∀ q ∈ nwM, va_Nw (.methodLinkNest q.1 q.2.1 q.2.2.1 q.2.2.2) U
theorem Nst.warm {s U : State} (hW : s.WarmedH U.vm) (h : Nst s) : Nst U := ⟨fun q hq => va_Nw.warmF hW (h.1 q hq), fun q hq => va_Nw.warmM hW (h.2 q hq)⟩
theorem Nst.same {s U : State} (hv : s.vm = U.vm) (h : Nst s) : Nst U := ⟨fun q hq => va_Nw.same rfl hv (h.1 q hq), fun q hq => va_Nw.same rfl hv (h.2 q hq)⟩
def stp1 : Nat → Value := fun j => vi (if j = 0 then 1 else if j = 1 then 1 else 3)
def stp2 : Nat → Value := fun j => vi (if j = 0 then 2 else if j = 1 then 1 else 4)
def ZG (A : Nat → Prop) (U : State) (H : Heap) : Prop := ∃ a1 a2 : Nat, va_Z RX1 "STRAIGHT_STEP" "[I" (.ref a1) A U H ∧ va_T .int a1 3 stp1 A U H ∧ va_Z RX1 "SLANTED_STEP" "[I" (.ref a2) A U H ∧ va_T .int a2 3 stp2 A U H
theorem ZG.moved {A : Nat → Prop} {u U : State} {H : Heap} (hv : u.vm.Alike U.vm) (h : ZG A u H) : ZG A U H := by
  obtain ⟨a1, a2, h1, h2, h3, h4⟩ := h
  exact ⟨a1, a2, h1.moved hv, h2.moved hv, h3.moved hv, h4.moved hv⟩
theorem ZG.kept {A : Nat → Prop} {U : State} {H H1 : Heap} (h : ZG A U H) (hq : ∀ a : Nat, a < H.size → ¬ A a → H1[a]? = H[a]?) : ZG A U H1 := by
  obtain ⟨a1, a2, h1, h2, h3, h4⟩ := h
  exact ⟨a1, a2, h1.kept hq, h2.kept hq, h3.kept hq, h4.kept hq⟩
theorem ZG.narrow {A B : Nat → Prop} {U : State} {H : Heap} (h : ZG A U H) (hAB : ∀ q, B q → A q) : ZG B U H := by
  obtain ⟨a1, a2, h1, h2, h3, h4⟩ := h
  exact ⟨a1, a2, h1.narrow hAB, h2.narrow hAB, h3.narrow hAB, h4.narrow hAB⟩
/-! ===== what holds all along a walk; a walk's state ===== -/
def CX (g : Gx) (own : String) (cc : ByteArray) (nL : Nat) (ret : Option FieldType) (A : Nat → Prop) (p : Program) (s : State) (m : MethodId) (args : Array Value) (meth : Method) (c : Code) : Prop :=
  p.tables.exec = Jvm.exec ∧ c.code = cc ∧ c.maxLocals = nL ∧ s.vm.findClass own = some m.cls ∧ (∀ w ∈ wsL_law, w.before args s = true) ∧ va_K g.1 vwCl (tyG g) s ∧ Nst s ∧ meth.sig.returnType = ret ∧ meth.locks = false ∧ (∀ q : Nat, s.heap.size ≤ q → A q) ∧ ZG A s s.heap
def RUN (g : Gx) (nL : Nat) (p : Program) (l : Launch) (e : Env) (R : Room) (s : State) (m : MethodId) (args : Array Value) (below : List Frame) (meth : Method) (c : Code) (A : Nat → Prop) (cells slots : Nat) (Q : State → Prop) (ws : va_W) (pc : Nat) (lv : List (Nat × Value)) (st : List Value) : Prop :=
  ∀ (ls : Array Slot) (H : Heap) (locs : List Loc), lv_has ls nL lv → va_P g.1 vwCl ws H → va_D A ws → va_S A s.heap H locs → W p l e R s m args below meth c H locs cells slots Q (F0 m pc ls st)
def PR (g : Gx) (av : List Value) (ws : va_W) (sz : Nat) : Array Value → State → Prop :=
  va_Pc av (fun U => U.heap.size = sz ∧ va_P g.1 vwCl ws U.heap ∧ va_K g.1 vwCl (tyG g) U ∧ va_D (fun _ => True) ws ∧ Nst U ∧ ZG (va_A ws sz) U U.heap)
def PB {S : Type} (g : Gx) (Wf : S → va_W) (ws : va_W) (sz : Nat) (u : S) (t : State) : Prop := va_P g.1 vwCl (Wf u) t.heap ∧ va_D (va_A ws sz) (Wf u)
def PI {S : Type} (g : Gx) (post : Int → S → Prop) (Wf : S → va_W) (ws : va_W) (sz : Nat) : Array Value → State → Outcome → State → Prop :=
  va_Qi (fun r u => ∃ x : Int, r = zI x ∧ post x u) (PB g Wf ws sz) (va_A ws sz)
def PV {S : Type} (g : Gx) (post : S → Prop) (Wf : S → va_W) (ws : va_W) (sz : Nat) : Array Value → State → Outcome → State → Prop :=
  va_Qv post (PB g Wf ws sz) (va_A ws sz)
def PA {S : Type} (g : Gx) (b : Nat) (post : S → Prop) (Wf : S → va_W) (ws : va_W) (sz : Nat) : Array Value → State → Outcome → State → Prop :=
  va_Qr post (fun u a t => a = b ∧ PB g Wf ws sz u t) (va_A ws sz)
theorem PR.blind {g : Gx} {av : List Value} {ws : va_W} {sz : Nat} : FrameBlind (PR g av ws sz) := by
  intro a U f mk h
  obtain ⟨q0, q1, qP, qK, qD, qN, qZ⟩ := h
  exact ⟨q0, q1, qP, va_K.moved (u := U) (U := U.calling f mk a) (Vm.Alike.refl U.vm) qK, qD, Nst.same (s := U) (U := U.calling f mk a) rfl qN, ZG.moved (u := U) (U := U.calling f mk a) (Vm.Alike.refl U.vm) qZ⟩
/-! ===== putting back what a call gave ===== -/
def wput : va_W → List Nat → va_W → va_W
  | ws, i :: is, e :: es => wput (ws.set i e) is es
  | ws, [], _ => ws
  | ws, _ :: _, [] => ws
theorem wput_get : ∀ (is : List Nat) (es : va_W) (ws : va_W) (k : Nat) (q : Nat × va_E), is.length = es.length → (wput ws is es)[k]? = some q → (∃ j : Nat, is[j]? = some k ∧ es[j]? = some q) ∨ (ws[k]? = some q ∧ k ∉ is) := by
  intro is
  induction is with
  | nil => intro es ws k q _ h; exact Or.inr ⟨by simpa [wput] using h, List.not_mem_nil⟩
  | cons i is ih =>
    intro es ws k q hl h
    cases es with
    | nil => simp at hl
    | cons e es =>
      rcases ih es (ws.set i e) k q (by simpa using hl) h with ⟨j, h1, h2⟩ | ⟨h1, h2⟩
      · exact Or.inl ⟨j + 1, by simpa using h1, by simpa using h2⟩
      · by_cases hk : i = k
        · subst hk
          rw [List.getElem?_set] at h1
          simp only [if_true] at h1
          split at h1
          · exact Or.inl ⟨0, by simp, by simpa using h1⟩
          · cases h1
        · rw [List.getElem?_set_ne hk] at h1
          exact Or.inr ⟨h1, by simp only [List.mem_cons, not_or]; exact ⟨fun e => hk e.symm, h2⟩⟩
theorem map_some_get {α : Type} {is : List Nat} {ws wc : List α} (h : is.map (fun i => ws[i]?) = wc.map some) {j k : Nat} (hj : is[j]? = some k) : ∃ q, wc[j]? = some q ∧ ws[k]? = some q := by
  have h1 := congrArg (fun l => l[j]?) h
  simp only [List.getElem?_map, hj, Option.map_some] at h1
  cases hw : wc[j]? with
  | none => rw [hw] at h1; simp at h1
  | some q => rw [hw] at h1; exact ⟨q, rfl, by simpa using h1⟩
theorem wput_adr {ws wc w1 : va_W} {is : List Nat} (hC : is.map (fun i => ws[i]?) = wc.map some) (ha : w1.map Prod.fst = wc.map Prod.fst) {k : Nat} {q : Nat × va_E} (h : (wput ws is w1)[k]? = some q) : ∃ q' : Nat × va_E, ws[k]? = some q' ∧ q'.1 = q.1 := by
  have hl1 : is.length = wc.length := by simpa using congrArg List.length hC
  have hl2 : w1.length = wc.length := by simpa using congrArg List.length ha
  rcases wput_get is w1 ws k q (by omega) h with ⟨j, h1, h2⟩ | ⟨h1, -⟩
  · obtain ⟨q', h3, h4⟩ := map_some_get hC h1
    have h5 := congrArg (fun l => l[j]?) ha
    simp only [List.getElem?_map, h2, h3, Option.map_some] at h5
    exact ⟨q', h4, (Option.some.inj h5).symm⟩
  · exact ⟨q, h1, rfl⟩
theorem wput_P {A0 : Nat → Prop} {D : va_G} {cl : List vw_C} {ws wc w1 : va_W} {H H1 : Heap} {is : List Nat} (hP : va_P D cl ws H) (hD : va_D A0 ws) (hC : is.map (fun i => ws[i]?) = wc.map some) (ha : w1.map Prod.fst = wc.map Prod.fst)
    (hk : ∀ q : Nat, q < H.size → ¬ va_A wc H.size q → H1[q]? = H[q]?) (hP1 : va_P D cl w1 H1) : va_P D cl (wput ws is w1) H1 ∧ va_D A0 (wput ws is w1) := by
  have hl1 : is.length = wc.length := by simpa using congrArg List.length hC
  have hl2 : w1.length = wc.length := by simpa using congrArg List.length ha
  refine ⟨fun k q hq => ?_, fun i j p q hi hj hpq => ?_, fun k q hq => ?_⟩
  · rcases wput_get is w1 ws k q (by omega) hq with ⟨j, -, h2⟩ | ⟨h1, h2⟩
    · exact hP1 j q h2
    · have hat := hP k q h1
      refine va_at.kept hat (hk _ (va_at.lt hat) ?_)
      rintro (⟨j, e, hj⟩ | hge)
      · have hjl : j < is.length := by
          rw [hl1]
          exact (List.getElem?_eq_some_iff.mp hj).1
        obtain ⟨q', h3, h4⟩ := map_some_get hC (List.getElem?_eq_getElem hjl)
        rw [hj] at h3
        cases h3
        have := hD.1 k is[j] q (q.1, e) h1 h4 rfl
        exact h2 (this ▸ List.getElem_mem hjl)
      · exact absurd (va_at.lt hat) (Nat.not_lt.mpr hge)
  · obtain ⟨p', h1, h2⟩ := wput_adr hC ha hi
    obtain ⟨q', h3, h4⟩ := wput_adr hC ha hj
    exact hD.1 i j p' q' h1 h3 (by rw [h2, h4]; exact hpq)
  · obtain ⟨q', h1, h2⟩ := wput_adr hC ha hq
    rw [← h2]
    exact hD.2 k q' h1
