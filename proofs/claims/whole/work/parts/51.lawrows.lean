/-! ===== the law's own rows ===== -/
def sx (xs : Nat → Int32) : Int → Int := fun k => (xs k.toNat).toInt
theorem i32_b (x : Int32) : -2147483648 ≤ x.toInt ∧ x.toInt ≤ 2147483647 := by
  have h1 := Int32.le_toInt x
  have h2 := Int32.toInt_lt x
  omega
theorem sx_b (xs : Nat → Int32) (k : Int) : -2147483648 ≤ sx xs k ∧ sx xs k ≤ 2147483647 := i32_b (xs k.toNat)
def an31 (x : Int) : Int := (zI x &&& zI 31).toInt
theorem an31_b (x : Int) : -2147483648 ≤ an31 x ∧ an31 x ≤ 2147483647 := i32_b _
section
variable {g : Gx} {own : String} {cc : ByteArray} {nL : Nat} {ret : Option FieldType} {p : Program} {l : Launch} {e : Env} {R : Room} {s : State} {m : MethodId} {args : Array Value} {below : List Frame} {meth : Method} {c : Code} {A : Nat → Prop} {cells slots : Nat} {Q : State → Prop} {ws : va_W} {pc : Nat} {lv : List (Nat × Value)} {st : List Value}
theorem r_sld (C : CX g own cc nL ret A p s m args meth c) {b L : Nat} {xs : Nat → Int32} {i : Int} (hX : va_X b L xs s s.heap) (hbl : b < s.heap.size) (hbA : ¬ A b) (hL : L ≤ 2048) (h : 0 ≤ i ∧ i < L) (hd : decode cc pc = .ok (.iaload, 1)) (k : RUN g nL p l e R s m args below meth c A cells slots Q ws (pc + 1) lv (vi (sx xs i) :: st)) : RUN g nL p l e R s m args below meth c A cells slots Q ws pc lv (vi i :: .ref b :: st) := fun ls H locs h1 h2 h3 h4 => by
  have k1 := k ls H locs h1 h2 h3 h4
  refine va_sld C.1 C.2.1 hX hbl hbA h4 (i := zI i) (vp_in_iff.mpr (by rw [zI_toInt (by omega)]; exact h)) hd ?_
  rw [zI_cl (by omega)]
  rw [show vi (sx xs i) = .int (xs i.toNat) from congrArg Value.int (zI_self _)] at k1
  exact k1
theorem r_slen (C : CX g own cc nL ret A p s m args meth c) {b L : Nat} {xs : Nat → Int32} (hX : va_X b L xs s s.heap) (hbl : b < s.heap.size) (hbA : ¬ A b) (hd : decode cc pc = .ok (.arraylength, 1)) (k : RUN g nL p l e R s m args below meth c A cells slots Q ws (pc + 1) lv (vi (L : Int) :: st)) : RUN g nL p l e R s m args below meth c A cells slots Q ws pc lv (.ref b :: st) := fun ls H locs h1 h2 h3 h4 => by
  refine va_slen C.1 C.2.1 hX hbl hbA h4 hd ?_
  rw [zI_nat]
  exact k ls H locs h1 h2 h3 h4
theorem r_same (C : CX g own cc nL ret A p s m args meth c) {off : Int} {x y : Int} (tgt : Nat) (hd : decode cc pc = .ok (.if_icmp .eq off, 3)) (ht : (pc : Int) + off = (tgt : Int)) (h : x = y) (k : RUN g nL p l e R s m args below meth c A cells slots Q ws tgt lv st) : RUN g nL p l e R s m args below meth c A cells slots Q ws pc lv (vi y :: vi x :: st) := fun ls H locs h1 h2 h3 h4 =>
  lv_icmp_eq C.1 C.2.1 hd ht (fun _ => k ls H locs h1 h2 h3 h4) (fun q => absurd (congrArg zI h) q)
theorem r_wid {k9 n9 : Nat} (hk : Nat.ble cells k9 = true) (hn : Nat.ble slots n9 = true) (k : RUN g nL p l e R s m args below meth c A k9 n9 Q ws pc lv st) : RUN g nL p l e R s m args below meth c A cells slots Q ws pc lv st := fun ls H locs h1 h2 h3 h4 => W.widen (Nat.le_of_ble_eq_true hk) (Nat.le_of_ble_eq_true hn) (k ls H locs h1 h2 h3 h4)
theorem k_IX {y : MethodName} {idx maxL b mc ms q v : Nat} {fm : Option Nat} {bytes : ByteArray} {rm : Room} {S : Type} {post : S → Prop} {Wf : S → va_W} {E : va_E} {rest : List Value} {ws0 : va_W} (C : CX g own cc nL ret A p s m args meth c) (hAO : va_AO RX7 s) (hST : STR q v fm A s s.heap) (kw : KJ own idx y bytes maxL) (M : ∀ sz, Met l y (.code y bytes maxL none :: wsL_law) rm (PRx g [.ref b] [(b, E)] sz q v fm) (PV g post Wf [(b, E)] sz) mc ms (va_A [(b, E)] sz)) (hd : decode cc pc = .ok (.invokespecial idx, 3)) (hR : RMI rm R maxL mc ms rest = true) (hcs : (Nat.ble (cells + mc) R.cells && Nat.ble (slots + ms) R.slots) = true) (hw : ws = ws0 ++ [(b, E)]) (k : ∀ u : S, post u → RUN g nL p l e R s m args below meth c A (cells + mc) (slots + ms) Q (ws0 ++ Wf u) (pc + 3) lv rest) : RUN g nL p l e R s m args below meth c A cells slots Q ws pc lv (.ref b :: rest) := fun ls H locs h1 h2 h3 h4 => by
  subst hw
  simp only [Bool.and_eq_true] at hcs
  simp only [RMI, Bool.and_eq_true] at hR
  obtain ⟨⟨⟨⟨hR1, hR2⟩, hR3⟩, hR4⟩, hR5⟩ := hR
  have hC : [ws0.length].map (fun i => (ws0 ++ [(b, E)])[i]?) = [(b, E)].map some := by
    show [(ws0 ++ [(b, E)])[ws0.length]?] = [some (b, E)]
    rw [List.getElem?_append_right (Nat.le_refl _), Nat.sub_self]
    rfl
  obtain ⟨hF, hpre⟩ := pre_call (av := [.ref b]) C h2 h3 h4 [ws0.length] hC rfl
  have hr : va_Run p l e R s m args below meth c H locs cells slots mc ms (F0 m pc ls (.ref b :: rest)) rest (PV g post Wf [(b, E)] H.size [Value.ref b].toArray) (va_A [(b, E)] H.size) := va_runI ⟨C.1, C.2.1, C.2.2.1, C.2.2.2.1, C.2.2.2.2.1⟩ (M H.size) (cwI 0 C.2.2.2.2.1 (good_c kw.2.2.2.1) rfl (Nat.eq_of_beq_eq_true hR3) (Nat.eq_of_beq_eq_true hR4) (C.2.2.2.2.1 _ kw.2.2.1) (C.2.2.2.2.1 _ kw.1) (C.2.2.2.2.1 _ kw.2.1) kw.2.2.2.2.1 kw.2.2.2.2.2 ⟨Nat.le_of_ble_eq_true hR1, Nat.le_of_ble_eq_true hR2⟩) (As := []) ⟨PRx.blind, fun U hU hW => ⟨⟨hpre U hU hW, va_AO.moved hW.alike hAO⟩, hST.go (fun a h5 h6 => h4.2.1 a h5 h6) hF hU hW⟩⟩ rfl rfl h1.1 rfl (lv_room (Nat.le_of_ble_eq_true hR5)) hd ⟨Nat.le_of_ble_eq_true hcs.1, Nat.le_of_ble_eq_true hcs.2⟩
  refine va_callv hr h4 (fun q _ h => hF q h) hF (fun u t H1 locs1 ht hvm hpo hB hz hk hS => ?_)
  obtain ⟨hP1, hD1⟩ := hB
  rw [ht] at hP1
  obtain ⟨h5, h6⟩ := grow_P h2 h3 hk hF hP1 hD1
  exact k u hpo ls H1 locs1 h1 h5 h6 hS
end
theorem r_fin {g : Gx} {own : String} {nL : Nat} {p : Program} {l : Launch} {e : Env} {s : State} {m : MethodId} {below : List Frame} {meth : Method} {c : Code} {b : Nat} {ws : va_W} {pc : Nat} {lv : List (Nat × Value)} (C : CX g own cL_law nL ret (va_A [] s.heap.size) p s m #[Value.ref b] meth c) (hd : decode cL_law pc = .ok (.ireturn, 1)) : RUN g nL p l e room_1 s m #[Value.ref b] below meth c (va_A [] s.heap.size) 600000 7302250 (lw_Z below #[Value.ref b] s) ws pc lv [vi 1] := fun ls H locs h1 h2 h3 h4 => by
  refine va_forget (fun q hq => ?_) (lw_ret C.1 C.2.1 C.2.2.2.2.2.2.2.1 C.2.2.2.2.2.2.2.2.1 hd)
  rcases h4.2.2 q hq with ⟨k, e, h⟩ | h
  · simp at h
  · exact h
theorem T_turn {sc tn fl s t q s2 t2 q2 s3 t3 q3 r r' : Int} (hL : LKO sc tn fl) (h1 : (r = -1 ∧ ¬ (2 ≤ s ∧ s ≤ 4 ∧ 0 ≤ t ∧ t ≤ 3 ∧ 0 ≤ q ∧ q ≤ 1) ∧ s2 = sc ∧ t2 = tn ∧ q2 = fl) ∨ (r = 0 ∧ (2 ≤ s ∧ s ≤ 4 ∧ 0 ≤ t ∧ t ≤ 3 ∧ 0 ≤ q ∧ q ≤ 1) ∧ s2 = s ∧ t2 = t ∧ q2 = q)) (h2 : (r' = -1 ∧ ¬ (2 ≤ s ∧ s ≤ 4 ∧ 0 ≤ t ∧ t ≤ 3 ∧ 0 ≤ q ∧ q ≤ 1) ∧ s3 = sc ∧ t3 = tn ∧ q3 = fl) ∨ (r' = 0 ∧ (2 ≤ s ∧ s ≤ 4 ∧ 0 ≤ t ∧ t ≤ 3 ∧ 0 ≤ q ∧ q ≤ 1) ∧ s3 = s ∧ t3 = t ∧ q3 = q)) : r = r' ∧ s3 = s2 ∧ t3 = t2 ∧ q3 = q2 ∧ LKO s2 t2 q2 := by
  unfold LKO at hL ⊢
  omega
