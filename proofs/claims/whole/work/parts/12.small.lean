/-- a letter of the text; 0 behind its end -/
def ltr (L : Int → Int) (len k : Int) : Int := if 0 ≤ k ∧ k < len then L k else 0
/-- a part of a rank -/
def prt (x q : Int) : Int := if q = 0 then x % 121 % 11 else if q = 1 then x % 121 / 11 else if q = 2 then x / 121 % 24 / 8 + 2 else if q = 3 then x / 121 % 24 / 2 % 4 else if q = 4 then x / 121 % 24 % 2 else if q = 5 then x / 2904 / 100 else x / 2904 % 100
/-- the box of the dots' places -/
def BX (P Q : Int → Int) (n lf rt tp bt : Int) : Prop := (∀ d : Int, 0 ≤ d → d < n → lf ≤ P d ∧ P d ≤ rt ∧ tp ≤ Q d ∧ Q d ≤ bt) ∧ (∃ d : Int, 0 ≤ d ∧ d < n ∧ P d = lf) ∧ (∃ d : Int, 0 ≤ d ∧ d < n ∧ P d = rt) ∧ (∃ d : Int, 0 ≤ d ∧ d < n ∧ Q d = tp) ∧ ∃ d : Int, 0 ≤ d ∧ d < n ∧ Q d = bt
theorem BX_1 (P Q : Int → Int) : BX P Q 1 (P 0) (P 0) (Q 0) (Q 0) := by
  refine ⟨fun d h0 h1 => ?_, ⟨0, by omega, by omega, rfl⟩, ⟨0, by omega, by omega, rfl⟩, ⟨0, by omega, by omega, rfl⟩, ⟨0, by omega, by omega, rfl⟩⟩
  rw [show d = 0 by omega]
  omega
theorem BX_s {P Q : Int → Int} {i lf rt tp bt : Int} (hi : 0 ≤ i) (h : BX P Q i lf rt tp bt) : BX P Q (i + 1) (min lf (P i)) (max rt (P i)) (min tp (Q i)) (max bt (Q i)) := by
  obtain ⟨h1, ⟨a, a0, a1, ea⟩, ⟨b, b0, b1, eb⟩, ⟨c, c0, c1, ec⟩, ⟨d, d0, d1, ed⟩⟩ := h
  refine ⟨fun k h0 h2 => ?_, ?_, ?_, ?_, ?_⟩
  · by_cases hk : k = i
    · subst hk; omega
    · have := h1 k h0 (by omega); omega
  · by_cases q : lf ≤ P i
    · exact ⟨a, a0, by omega, by omega⟩
    · exact ⟨i, hi, by omega, by omega⟩
  · by_cases q : P i ≤ rt
    · exact ⟨b, b0, by omega, by omega⟩
    · exact ⟨i, hi, by omega, by omega⟩
  · by_cases q : tp ≤ Q i
    · exact ⟨c, c0, by omega, by omega⟩
    · exact ⟨i, hi, by omega, by omega⟩
  · by_cases q : Q i ≤ bt
    · exact ⟨d, d0, by omega, by omega⟩
    · exact ⟨i, hi, by omega, by omega⟩
/-- all dots lie on cells -/
def FT (P Q : Int → Int) (n w h x y : Int) : Prop := ∀ d : Int, 0 ≤ d → d < n → 0 ≤ x + P d ∧ x + P d < w ∧ 0 ≤ y + Q d ∧ y + Q d < h
theorem BX_FT {P Q : Int → Int} {n lf rt tp bt w h x y : Int} (hb : BX P Q n lf rt tp bt) : (0 ≤ x + lf ∧ x + rt < w ∧ 0 ≤ y + tp ∧ y + bt < h) ↔ FT P Q n w h x y := by
  obtain ⟨h1, ⟨a, a0, a1, ea⟩, ⟨b, b0, b1, eb⟩, ⟨c, c0, c1, ec⟩, ⟨d, d0, d1, ed⟩⟩ := hb
  constructor
  · intro q k h0 h2
    have := h1 k h0 h2
    omega
  · intro q
    have := q a a0 a1
    have := q b b0 b1
    have := q c c0 c1
    have := q d d0 d1
    omega
def rX (t x y : Int) : Int := if t = 0 then x else if t = 1 then -y else if t = 2 then -x else y
def rY (t x y : Int) : Int := if t = 0 then y else if t = 1 then x else if t = 2 then -y else -x
/-- where a dot lies from the place -/
def lX (s t f x y : Int) : Int := (rX t (if f = 1 then -x else x) y * s + 1) / 2
def lY (s t f x y : Int) : Int := (rY t (if f = 1 then -x else x) y * s + 1) / 2
theorem lX_bd {s t f x y : Int} (hx : -5 ≤ x ∧ x ≤ 5) (hy : -5 ≤ y ∧ y ≤ 5) (hs : s = 2 ∨ s = 3 ∨ s = 4) : -30 ≤ lX s t f x y ∧ lX s t f x y ≤ 30 := by
  unfold lX
  have h : -5 ≤ rX t (if f = 1 then -x else x) y ∧ rX t (if f = 1 then -x else x) y ≤ 5 := by unfold rX; omega
  generalize rX t (if f = 1 then -x else x) y = a at h ⊢
  rcases hs with rfl | rfl | rfl <;> omega
theorem lY_bd {s t f x y : Int} (hx : -5 ≤ x ∧ x ≤ 5) (hy : -5 ≤ y ∧ y ≤ 5) (hs : s = 2 ∨ s = 3 ∨ s = 4) : -30 ≤ lY s t f x y ∧ lY s t f x y ≤ 30 := by
  unfold lY
  have h : -5 ≤ rY t (if f = 1 then -x else x) y ∧ rY t (if f = 1 then -x else x) y ≤ 5 := by unfold rY; omega
  generalize rY t (if f = 1 then -x else x) y = a at h ⊢
  rcases hs with rfl | rfl | rfl <;> omega
/-- a shape as it is formed -/
def SHP (X Y : Int → Int) (n s t fl : Int) (P Q : Int → Int) (lf rt tp bt : Int) : Prop := (∀ k : Int, 0 ≤ k → k < n → P k = lX s t fl (X k) (Y k)) ∧ (∀ k : Int, 0 ≤ k → k < n → Q k = lY s t fl (X k) (Y k)) ∧ BX P Q n lf rt tp bt
theorem zU_all {P G : Int → Int} {d v : Int} (h : ∀ k : Int, 0 ≤ k → k < d → P k = G k) (hv : v = G d) : ∀ k : Int, 0 ≤ k → k < d + 1 → zU P d v k = G k := by
  intro k h0 h1
  by_cases hk : k = d
  · rw [hk, zU_eq, hv]
  · rw [zU_ne _ _ hk]
    exact h k h0 (by omega)
set_option maxHeartbeats 1000000 in
set_option maxRecDepth 100000 in
theorem c_X8_append (l : Launch) (g : Gx) (ha : Nat) (hal : Nat) (L : Int → Int) (len : Int) (ch : Int) (hlen : 0 ≤ len ∧ len ≤ 200) (hch : 0 ≤ ch ∧ ch ≤ 65535) (sz : Nat) : Met l yX8_append (.code yX8_append cX8_append 2 (some .boolean) :: wsL_law) { frames := 0, cells := 0, slots := 0, locals := 0 } (PR g [.ref ha, vi ch] [(ha, oB 7 [.ref hal, vi len]), (hal, aC g 200 L)] sz) (PI (S := Int × (Int → Int) × Int) g (fun r u_ => (r = 0 ∧ len = 200 ∧ u_.2.1 = L ∧ u_.2.2 = len) ∨ (r = 1 ∧ len < 200 ∧ u_.2.1 = zU L len ch ∧ u_.2.2 = len + 1)) (fun u_ => [(ha, oB 7 [.ref hal, vi u_.2.2]), (hal, aC g 200 u_.2.1)]) [(ha, oB 7 [.ref hal, vi len]), (hal, aC g 200 L)] sz) 0 0 (va_A [(ha, oB 7 [.ref hal, vi len]), (hal, aC g 200 L)] sz) := by
  refine meet (own := RX8) rfl (plainFor_of_name (by decide +kernel)) rfl (fun p_ e_ s_ m_ args_ below_ meth_ c_ C hnm => ?_)
  refine r_at (ws' := [(ha, oB 7 [.ref hal, vi len]), (hal, aC g 200 L)]) (lv' := [(0, .ref ha), (1, vi ch)]) rfl rfl ?_
  refine r_aload_n C dX8_append_0 0 rfl ?_
  refine gf_X8_15 C dX8_append_1 0 rfl rfl ?_
  refine r_aload_n C dX8_append_4 0 rfl ?_
  refine gf_X8_9 C dX8_append_5 0 rfl rfl ?_
  refine r_clen C dX8_append_8 1 rfl ?_
  refine r_eq (y := 200) rfl ?_
  refine r_icmp_lt C 14 dX8_append_9 rfl (by omega) (fun c_1 => ?_) (fun c_1 => ?_)
  · skip
    refine r_aload_n C dX8_append_14 0 rfl ?_
    refine gf_X8_9 C dX8_append_15 0 rfl rfl ?_
    refine r_aload_n C dX8_append_18 0 rfl ?_
    refine gf_X8_15 C dX8_append_19 0 rfl rfl ?_
    refine r_iload_n C dX8_append_22 1 rfl ?_
    refine r_cast C (ws' := [(ha, oB 7 [.ref hal, vi len]), (hal, aC g 200 (zU L len ch))]) dX8_append_23 1 rfl rfl (by omega) (nar_c (by omega)) rfl ?_
    refine r_aload_n C dX8_append_24 0 rfl ?_
    refine r_dup C dX8_append_25 rfl ?_
    refine gf_X8_15 C dX8_append_26 0 rfl rfl ?_
    refine r_iconst C dX8_append_29 ?_
    refine r_iadd C dX8_append_30 ?_
    refine pf_X8_15 C (ws' := [(ha, oB 7 [.ref hal, vi (len + 1)]), (hal, aC g 200 (zU L len ch))]) dX8_append_31 0 rfl (Nat.le_of_ble_eq_true rfl) rfl ?_
    refine r_iconst C dX8_append_34 ?_
    exact e_z C (0, zU L len ch, len + 1) dX8_append_35 (by omega) (show (1 = 0 ∧ len = 200 ∧ (zU L len ch) = L ∧ (len + 1) = len) ∨ (1 = 1 ∧ len < 200 ∧ (zU L len ch) = zU L len ch ∧ (len + 1) = len + 1) from Or.inr ⟨rfl, by omega, rfl, rfl⟩) rfl
  · skip
    refine r_iconst C dX8_append_12 ?_
    exact e_z C (0, L, len) dX8_append_13 (by omega) (show (0 = 0 ∧ len = 200 ∧ L = L ∧ len = len) ∨ (0 = 1 ∧ len < 200 ∧ L = zU L len ch ∧ len = len + 1) from Or.inl ⟨rfl, by omega, rfl, rfl⟩) rfl
set_option maxHeartbeats 1000000 in
set_option maxRecDepth 100000 in
theorem c_X8_at (l : Launch) (g : Gx) (ha : Nat) (hal : Nat) (L : Int → Int) (len : Int) (k : Int) (hlen : 0 ≤ len ∧ len ≤ 200) (hL : ∀ k : Int, 0 ≤ k → k < 200 → 0 ≤ L k ∧ L k ≤ 65535) (hk : -1000 ≤ k ∧ k ≤ 1000) (sz : Nat) : Met l yX8_at (.code yX8_at cX8_at 2 (some .char) :: wsL_law) { frames := 0, cells := 0, slots := 0, locals := 0 } (PR g [.ref ha, vi k] [(ha, oB 7 [.ref hal, vi len]), (hal, aC g 200 L)] sz) (PI (S := Unit) g (fun r u_ => r = ltr L len k) (fun u_ => [(ha, oB 7 [.ref hal, vi len]), (hal, aC g 200 L)]) [(ha, oB 7 [.ref hal, vi len]), (hal, aC g 200 L)] sz) 0 0 (va_A [(ha, oB 7 [.ref hal, vi len]), (hal, aC g 200 L)] sz) := by
  refine meet (own := RX8) rfl (plainFor_of_name (by decide +kernel)) rfl (fun p_ e_ s_ m_ args_ below_ meth_ c_ C hnm => ?_)
  refine r_at (ws' := [(ha, oB 7 [.ref hal, vi len]), (hal, aC g 200 L)]) (lv' := [(0, .ref ha), (1, vi k)]) rfl rfl ?_
  refine r_iload_n C dX8_at_0 1 rfl ?_
  refine r_if_lt C 30 dX8_at_1 rfl (by omega) (fun c_1 => ?_) (fun c_1 => ?_)
  · skip
    refine r_iconst C dX8_at_30 ?_
    exact e_c C () dX8_at_31 (nar_c2 (by omega)) (show 0 = ltr L len k from by unfold ltr; first | rw [if_pos (by omega)] | rw [if_neg (by omega)]) rfl
  · skip
    refine r_iload_n C dX8_at_4 1 rfl ?_
    refine r_aload_n C dX8_at_5 0 rfl ?_
    refine gf_X8_15 C dX8_at_6 0 rfl rfl ?_
    refine r_icmp_ge C 30 dX8_at_9 rfl (by omega) (fun c_2 => ?_) (fun c_2 => ?_)
    · skip
      refine r_iconst C dX8_at_30 ?_
      exact e_c C () dX8_at_31 (nar_c2 (by omega)) (show 0 = ltr L len k from by unfold ltr; first | rw [if_pos (by omega)] | rw [if_neg (by omega)]) rfl
    · skip
      refine r_iload_n C dX8_at_12 1 rfl ?_
      refine r_aload_n C dX8_at_13 0 rfl ?_
      refine gf_X8_9 C dX8_at_14 0 rfl rfl ?_
      refine r_clen C dX8_at_17 1 rfl ?_
      refine r_eq (y := 200) rfl ?_
      refine r_icmp_ge C 30 dX8_at_18 rfl (by omega) (fun c_3 => ?_) (fun c_3 => ?_)
      · skip
        exact absurd hlen (by omega)
      · skip
        refine r_aload_n C dX8_at_21 0 rfl ?_
        refine gf_X8_9 C dX8_at_22 0 rfl rfl ?_
        refine r_iload_n C dX8_at_25 1 rfl ?_
        refine r_cald C dX8_at_26 1 rfl rfl (by omega) ?_
        have b_26 := hL k (by omega) (by omega)
        refine r_goto C 31 dX8_at_27 rfl ?_
        exact e_c C () dX8_at_31 (nar_c2 (by omega)) (show (L k) = ltr L len k from by unfold ltr; first | rw [if_pos (by omega)] | rw [if_neg (by omega)]) rfl
set_option maxHeartbeats 1000000 in
set_option maxRecDepth 100000 in
theorem c_X0_add (l : Launch) (g : Gx) (hb : Nat) (hbr : Nat) (hbg : Nat) (rk : Int → Int) (gn : Int → Int) (bs : Int) (x : Int) (y : Int) (hbs : 0 ≤ bs ∧ bs < 8) (sz : Nat) : Met l yX0_add (.code yX0_add cX0_add 3 none :: wsL_law) { frames := 0, cells := 0, slots := 0, locals := 0 } (PR g [.ref hb, vi x, vi y] [(hb, oB 0 [.ref hbr, .ref hbg, vi bs]), (hbr, aI g 8 rk), (hbg, aI g 8 gn)] sz) (PV (S := Unit) g (fun u_ => True) (fun u_ => [(hb, oB 0 [.ref hbr, .ref hbg, vi (bs + 1)]), (hbr, aI g 8 (zU rk bs x)), (hbg, aI g 8 (zU gn bs y))]) [(hb, oB 0 [.ref hbr, .ref hbg, vi bs]), (hbr, aI g 8 rk), (hbg, aI g 8 gn)] sz) 0 0 (va_A [(hb, oB 0 [.ref hbr, .ref hbg, vi bs]), (hbr, aI g 8 rk), (hbg, aI g 8 gn)] sz) := by
  refine meet (own := RX0) rfl (plainFor_of_name (by decide +kernel)) rfl (fun p_ e_ s_ m_ args_ below_ meth_ c_ C hnm => ?_)
  refine r_at (ws' := [(hb, oB 0 [.ref hbr, .ref hbg, vi bs]), (hbr, aI g 8 rk), (hbg, aI g 8 gn)]) (lv' := [(0, .ref hb), (1, vi x), (2, vi y)]) rfl rfl ?_
  refine r_aload_n C dX0_add_0 0 rfl ?_
  refine gf_X0_18 C dX0_add_1 0 rfl rfl ?_
  refine r_bipush C dX0_add_4 rfl ?_
  refine r_icmp_ge C 39 dX0_add_6 rfl (by omega) (fun c_1 => ?_) (fun c_1 => ?_)
  · skip
    exact absurd hbs (by omega)
  · skip
    refine r_aload_n C dX0_add_9 0 rfl ?_
    refine gf_X0_9 C dX0_add_10 0 rfl rfl ?_
    refine r_aload_n C dX0_add_13 0 rfl ?_
    refine gf_X0_18 C dX0_add_14 0 rfl rfl ?_
    refine r_iload_n C dX0_add_17 1 rfl ?_
    refine r_iast C (ws' := [(hb, oB 0 [.ref hbr, .ref hbg, vi bs]), (hbr, aI g 8 (zU rk bs x)), (hbg, aI g 8 gn)]) dX0_add_18 1 rfl rfl (by omega) rfl ?_
    refine r_aload_n C dX0_add_19 0 rfl ?_
    refine gf_X0_15 C dX0_add_20 0 rfl rfl ?_
    refine r_aload_n C dX0_add_23 0 rfl ?_
    refine gf_X0_18 C dX0_add_24 0 rfl rfl ?_
    refine r_iload_n C dX0_add_27 2 rfl ?_
    refine r_iast C (ws' := [(hb, oB 0 [.ref hbr, .ref hbg, vi bs]), (hbr, aI g 8 (zU rk bs x)), (hbg, aI g 8 (zU gn bs y))]) dX0_add_28 2 rfl rfl (by omega) rfl ?_
    refine r_aload_n C dX0_add_29 0 rfl ?_
    refine r_dup C dX0_add_30 rfl ?_
    refine gf_X0_18 C dX0_add_31 0 rfl rfl ?_
    refine r_iconst C dX0_add_34 ?_
    refine r_iadd C dX0_add_35 ?_
    refine pf_X0_18 C (ws' := [(hb, oB 0 [.ref hbr, .ref hbg, vi (bs + 1)]), (hbr, aI g 8 (zU rk bs x)), (hbg, aI g 8 (zU gn bs y))]) dX0_add_36 0 rfl (Nat.le_of_ble_eq_true rfl) rfl ?_
    exact e_v C () dX0_add_39 (trivial) rfl
set_option maxHeartbeats 1000000 in
set_option maxRecDepth 100000 in
theorem c_X4_of (l : Launch) (g : Gx) (hf : Nat) (il : Int) (wo : Int) (wd : Int) (oe : Int) (mn : Int) (pl : Int) (sz : Nat) : Met l yX4_of (.code yX4_of cX4_of 3 (some .int) :: wsL_law) { frames := 0, cells := 0, slots := 0, locals := 0 } (PR g [.ref hf, vi mn, vi pl] [(hf, oB 2 [vi il, vi wo, vi wd, vi oe])] sz) (PI (S := Unit) g (fun r u_ => r = ((il * 100 + wo) * 24 + mn) * 121 + pl) (fun u_ => [(hf, oB 2 [vi il, vi wo, vi wd, vi oe])]) [(hf, oB 2 [vi il, vi wo, vi wd, vi oe])] sz) 0 0 (va_A [(hf, oB 2 [vi il, vi wo, vi wd, vi oe])] sz) := by
  refine meet (own := RX4) rfl (plainFor_of_name (by decide +kernel)) rfl (fun p_ e_ s_ m_ args_ below_ meth_ c_ C hnm => ?_)
  refine r_at (ws' := [(hf, oB 2 [vi il, vi wo, vi wd, vi oe])]) (lv' := [(0, .ref hf), (1, vi mn), (2, vi pl)]) rfl rfl ?_
  refine r_aload_n C dX4_of_0 0 rfl ?_
  refine gf_X4_11 C dX4_of_1 0 rfl rfl ?_
  refine r_bipush C dX4_of_4 rfl ?_
  refine r_imul C dX4_of_6 ?_
  refine r_aload_n C dX4_of_7 0 rfl ?_
  refine gf_X4_17 C dX4_of_8 0 rfl rfl ?_
  refine r_iadd C dX4_of_11 ?_
  refine r_bipush C dX4_of_12 rfl ?_
  refine r_imul C dX4_of_14 ?_
  refine r_iload_n C dX4_of_15 1 rfl ?_
  refine r_iadd C dX4_of_16 ?_
  refine r_bipush C dX4_of_17 rfl ?_
  refine r_imul C dX4_of_19 ?_
  refine r_iload_n C dX4_of_20 2 rfl ?_
  refine r_iadd C dX4_of_21 ?_
  exact e_i C () dX4_of_22 (show ((((((il * 100) + wo) * 24) + mn) * 121) + pl) = ((il * 100 + wo) * 24 + mn) * 121 + pl from rfl) rfl
set_option maxHeartbeats 1000000 in
set_option maxRecDepth 100000 in
theorem c_X4_scaleOf (l : Launch) (g : Gx) (x : Int) (hx : 0 ≤ x ∧ x ≤ 2147483647) (sz : Nat) : Met l yX4_scaleOf (.code yX4_scaleOf cX4_scaleOf 1 (some .int) :: wsL_law) { frames := 0, cells := 0, slots := 0, locals := 0 } (PR g [vi x] [] sz) (PI (S := Unit) g (fun r u_ => r = x / 8 + 2) (fun u_ => []) [] sz) 0 0 (va_A [] sz) := by
  refine meet (own := RX4) rfl (plainFor_of_name (by decide +kernel)) rfl (fun p_ e_ s_ m_ args_ below_ meth_ c_ C hnm => ?_)
  refine r_at (ws' := []) (lv' := [(0, vi x)]) rfl rfl ?_
  refine r_iload_n C dX4_scaleOf_0 0 rfl ?_
  refine r_bipush C dX4_scaleOf_1 rfl ?_
  refine r_idiv C dX4_scaleOf_3 (by omega) ?_
  refine r_iconst C dX4_scaleOf_4 ?_
  refine r_iadd C dX4_scaleOf_5 ?_
  exact e_i C () dX4_scaleOf_6 (show ((x / 8) + 2) = x / 8 + 2 from rfl) rfl
set_option maxHeartbeats 1000000 in
set_option maxRecDepth 100000 in
theorem c_X4_turnsOf (l : Launch) (g : Gx) (x : Int) (hx : 0 ≤ x ∧ x ≤ 2147483647) (sz : Nat) : Met l yX4_turnsOf (.code yX4_turnsOf cX4_turnsOf 1 (some .int) :: wsL_law) { frames := 0, cells := 0, slots := 0, locals := 0 } (PR g [vi x] [] sz) (PI (S := Unit) g (fun r u_ => r = x / 2 % 4) (fun u_ => []) [] sz) 0 0 (va_A [] sz) := by
  refine meet (own := RX4) rfl (plainFor_of_name (by decide +kernel)) rfl (fun p_ e_ s_ m_ args_ below_ meth_ c_ C hnm => ?_)
  refine r_at (ws' := []) (lv' := [(0, vi x)]) rfl rfl ?_
  refine r_iload_n C dX4_turnsOf_0 0 rfl ?_
  refine r_iconst C dX4_turnsOf_1 ?_
  refine r_idiv C dX4_turnsOf_2 (by omega) ?_
  refine r_iconst C dX4_turnsOf_3 ?_
  refine r_irem C dX4_turnsOf_4 (by omega) ?_
  exact e_i C () dX4_turnsOf_5 (show ((x / 2) % 4) = x / 2 % 4 from rfl) rfl
set_option maxHeartbeats 1000000 in
set_option maxRecDepth 100000 in
theorem c_X4_flipOf (l : Launch) (g : Gx) (x : Int) (hx : 0 ≤ x ∧ x ≤ 2147483647) (sz : Nat) : Met l yX4_flipOf (.code yX4_flipOf cX4_flipOf 1 (some .int) :: wsL_law) { frames := 0, cells := 0, slots := 0, locals := 0 } (PR g [vi x] [] sz) (PI (S := Unit) g (fun r u_ => r = x % 2) (fun u_ => []) [] sz) 0 0 (va_A [] sz) := by
  refine meet (own := RX4) rfl (plainFor_of_name (by decide +kernel)) rfl (fun p_ e_ s_ m_ args_ below_ meth_ c_ C hnm => ?_)
  refine r_at (ws' := []) (lv' := [(0, vi x)]) rfl rfl ?_
  refine r_iload_n C dX4_flipOf_0 0 rfl ?_
  refine r_iconst C dX4_flipOf_1 ?_
  refine r_irem C dX4_flipOf_2 (by omega) ?_
  exact e_i C () dX4_flipOf_3 (show (x % 2) = x % 2 from rfl) rfl
set_option maxHeartbeats 1000000 in
set_option maxRecDepth 100000 in
theorem c_X4_part (l : Launch) (g : Gx) (x : Int) (q : Int) (hx : 0 ≤ x ∧ x ≤ 2147483647) (hq : -2147483648 ≤ q ∧ q ≤ 2147483647) (sz : Nat) : Met l yX4_part (.code yX4_part cX4_part 5 (some .int) :: wsL_law) { frames := 1, cells := 0, slots := 0, locals := 20 } (PR g [vi x, vi q] [] sz) (PI (S := Unit) g (fun r u_ => r = prt x q) (fun u_ => []) [] sz) 0 0 (va_A [] sz) := by
  refine meet (own := RX4) rfl (plainFor_of_name (by decide +kernel)) rfl (fun p_ e_ s_ m_ args_ below_ meth_ c_ C hnm => ?_)
  refine r_at (ws' := []) (lv' := [(0, vi x), (1, vi q)]) rfl rfl ?_
  refine r_iload_n C dX4_part_0 0 rfl ?_
  refine r_bipush C dX4_part_1 rfl ?_
  refine r_irem C dX4_part_3 (by omega) ?_
  refine r_top (fun pl epl => ?_)
  refine r_istore_n C (lv' := [(2, vi pl), (0, vi x), (1, vi q)]) dX4_part_4 rfl rfl ?_
  refine r_iload_n C dX4_part_5 1 rfl ?_
  refine r_bipush C dX4_part_6 rfl ?_
  refine r_idiv C dX4_part_8 (by omega) ?_
  refine r_bipush C dX4_part_9 rfl ?_
  refine r_irem C dX4_part_11 (by omega) ?_
  refine r_top (fun mn emn => ?_)
  refine r_istore_n C (lv' := [(3, vi mn), (2, vi pl), (0, vi x), (1, vi q)]) dX4_part_12 rfl rfl ?_
  refine r_iload_n C dX4_part_13 2 rfl ?_
  refine r_sipush C dX4_part_14 rfl ?_
  refine r_idiv C dX4_part_17 (by omega) ?_
  refine r_top (fun ft eft => ?_)
  refine r_istore C (lv' := [(4, vi ft), (3, vi mn), (2, vi pl), (0, vi x), (1, vi q)]) dX4_part_18 rfl rfl ?_
  refine r_iload_n C dX4_part_20 4 rfl ?_
  by_cases c_1 : q = 0
  · refine r_tabIn C 60 (v := 0) dX4_part_21 c_1 (by omega) rfl rfl ?_
    refine r_iload_n C dX4_part_60 2 rfl ?_
    refine r_bipush C dX4_part_61 rfl ?_
    refine r_irem C dX4_part_63 (by omega) ?_
    exact e_i C () dX4_part_64 (show (pl % 11) = prt x q from by unfold prt; omega) rfl
  by_cases c_2 : q = 1
  · refine r_tabIn C 65 (v := 1) dX4_part_21 c_2 (by omega) rfl rfl ?_
    refine r_iload_n C dX4_part_65 2 rfl ?_
    refine r_bipush C dX4_part_66 rfl ?_
    refine r_idiv C dX4_part_68 (by omega) ?_
    exact e_i C () dX4_part_69 (show (pl / 11) = prt x q from by unfold prt; omega) rfl
  by_cases c_3 : q = 2
  · refine r_tabIn C 70 (v := 2) dX4_part_21 c_3 (by omega) rfl rfl ?_
    refine r_iload_n C dX4_part_70 1 rfl ?_
    refine k_Si C ks_X4_20 (fun sz => c_X4_scaleOf l g mn (by omega) sz) dX4_part_71 rfl rfl rfl ⟨rfl, rfl⟩ [] rfl rfl (fun _ => rfl) (ws' := fun u_ => []) (fun _ => rfl) (fun r_71 u_ p_71 => ?_)
    have p_71 : r_71 = mn / 8 + 2 := p_71
    exact e_i C () dX4_part_74 (show r_71 = prt x q from by unfold prt; omega) rfl
  by_cases c_4 : q = 3
  · refine r_tabIn C 75 (v := 3) dX4_part_21 c_4 (by omega) rfl rfl ?_
    refine r_iload_n C dX4_part_75 1 rfl ?_
    refine k_Si C ks_X4_24 (fun sz => c_X4_turnsOf l g mn (by omega) sz) dX4_part_76 rfl rfl rfl ⟨rfl, rfl⟩ [] rfl rfl (fun _ => rfl) (ws' := fun u_ => []) (fun _ => rfl) (fun r_76 u_ p_76 => ?_)
    have p_76 : r_76 = mn / 2 % 4 := p_76
    exact e_i C () dX4_part_79 (show r_76 = prt x q from by unfold prt; omega) rfl
  by_cases c_5 : q = 4
  · refine r_tabIn C 80 (v := 4) dX4_part_21 c_5 (by omega) rfl rfl ?_
    refine r_iload_n C dX4_part_80 1 rfl ?_
    refine k_Si C ks_X4_27 (fun sz => c_X4_flipOf l g mn (by omega) sz) dX4_part_81 rfl rfl rfl ⟨rfl, rfl⟩ [] rfl rfl (fun _ => rfl) (ws' := fun u_ => []) (fun _ => rfl) (fun r_81 u_ p_81 => ?_)
    have p_81 : r_81 = mn % 2 := p_81
    exact e_i C () dX4_part_84 (show r_81 = prt x q from by unfold prt; omega) rfl
  by_cases c_6 : q = 5
  · refine r_tabIn C 85 (v := 5) dX4_part_21 c_6 (by omega) rfl rfl ?_
    refine r_iload C dX4_part_85 0 rfl ?_
    refine r_bipush C dX4_part_87 rfl ?_
    refine r_idiv C dX4_part_89 (by omega) ?_
    exact e_i C () dX4_part_90 (show (ft / 100) = prt x q from by unfold prt; omega) rfl
  refine r_tabOut C 91 dX4_part_21 (by omega) (by omega) rfl ?_
  refine r_iload C dX4_part_91 0 rfl ?_
  refine r_bipush C dX4_part_93 rfl ?_
  refine r_irem C dX4_part_95 (by omega) ?_
  exact e_i C () dX4_part_96 (show (ft % 100) = prt x q from by unfold prt; omega) rfl
set_option maxHeartbeats 1000000 in
set_option maxRecDepth 100000 in
theorem c_X11_isFrom (l : Launch) (g : Gx) (lo : Int) (x : Int) (hi : Int) (hlo : -2147483648 ≤ lo ∧ lo ≤ 2147483647) (hx : -2147483648 ≤ x ∧ x ≤ 2147483647) (hhi : -2147483648 ≤ hi ∧ hi ≤ 2147483647) (sz : Nat) : Met l yX11_isFrom (.code yX11_isFrom cX11_isFrom 3 (some .boolean) :: wsL_law) { frames := 0, cells := 0, slots := 0, locals := 0 } (PR g [vi lo, vi x, vi hi] [] sz) (PI (S := Unit) g (fun r u_ => (r = 1 ∧ lo ≤ x ∧ x ≤ hi) ∨ (r = 0 ∧ ¬ (lo ≤ x ∧ x ≤ hi))) (fun u_ => []) [] sz) 0 0 (va_A [] sz) := by
  refine meet (own := RX11) rfl (plainFor_of_name (by decide +kernel)) rfl (fun p_ e_ s_ m_ args_ below_ meth_ c_ C hnm => ?_)
  refine r_at (ws' := []) (lv' := [(0, vi lo), (1, vi x), (2, vi hi)]) rfl rfl ?_
  refine r_iload_n C dX11_isFrom_0 1 rfl ?_
  refine r_iload_n C dX11_isFrom_1 0 rfl ?_
  refine r_icmp_lt C 14 dX11_isFrom_2 rfl (by omega) (fun c_1 => ?_) (fun c_1 => ?_)
  · skip
    refine r_iconst C dX11_isFrom_14 ?_
    exact e_z C () dX11_isFrom_15 (by omega) (show (0 = 1 ∧ lo ≤ x ∧ x ≤ hi) ∨ (0 = 0 ∧ ¬ (lo ≤ x ∧ x ≤ hi)) from by omega) rfl
  · skip
    refine r_iload_n C dX11_isFrom_5 1 rfl ?_
    refine r_iload_n C dX11_isFrom_6 2 rfl ?_
    refine r_icmp_gt C 14 dX11_isFrom_7 rfl (by omega) (fun c_2 => ?_) (fun c_2 => ?_)
    · skip
      refine r_iconst C dX11_isFrom_14 ?_
      exact e_z C () dX11_isFrom_15 (by omega) (show (0 = 1 ∧ lo ≤ x ∧ x ≤ hi) ∨ (0 = 0 ∧ ¬ (lo ≤ x ∧ x ≤ hi)) from by omega) rfl
    · skip
      refine r_iconst C dX11_isFrom_10 ?_
      refine r_goto C 15 dX11_isFrom_11 rfl ?_
      exact e_z C () dX11_isFrom_15 (by omega) (show (1 = 1 ∧ lo ≤ x ∧ x ≤ hi) ∨ (1 = 0 ∧ ¬ (lo ≤ x ∧ x ≤ hi)) from by omega) rfl
set_option maxHeartbeats 1000000 in
set_option maxRecDepth 100000 in
theorem c_X9_findBox (l : Launch) (g : Gx) (hs : Nat) (hsx : Nat) (hsy : Nat) (P : Int → Int) (Q : Int → Int) (ns : Int) (lf : Int) (rt : Int) (tp : Int) (bt : Int) (hn : 1 ≤ ns ∧ ns ≤ 10) (hP : ∀ k : Int, 0 ≤ k → k < ns → -30 ≤ P k ∧ P k ≤ 30) (hQ : ∀ k : Int, 0 ≤ k → k < ns → -30 ≤ Q k ∧ Q k ≤ 30) (sz : Nat) : Met l yX9_findBox (.code yX9_findBox cX9_findBox 2 none :: wsL_law) { frames := 1, cells := 0, slots := 0, locals := 14 } (PR g [.ref hs] [(hs, oB 8 [.ref hsx, .ref hsy, vi ns, vi lf, vi rt, vi tp, vi bt]), (hsx, aI g 10 P), (hsy, aI g 10 Q)] sz) (PV (S := Int × Int × Int × Int) g (fun u_ => BX P Q ns u_.1 u_.2.1 u_.2.2.1 u_.2.2.2) (fun u_ => [(hs, oB 8 [.ref hsx, .ref hsy, vi ns, vi u_.1, vi u_.2.1, vi u_.2.2.1, vi u_.2.2.2]), (hsx, aI g 10 P), (hsy, aI g 10 Q)]) [(hs, oB 8 [.ref hsx, .ref hsy, vi ns, vi lf, vi rt, vi tp, vi bt]), (hsx, aI g 10 P), (hsy, aI g 10 Q)] sz) 0 0 (va_A [(hs, oB 8 [.ref hsx, .ref hsy, vi ns, vi lf, vi rt, vi tp, vi bt]), (hsx, aI g 10 P), (hsy, aI g 10 Q)] sz) := by
  refine meet (own := RX9) rfl (plainFor_of_name (by decide +kernel)) rfl (fun p_ e_ s_ m_ args_ below_ meth_ c_ C hnm => ?_)
  refine r_at (ws' := [(hs, oB 8 [.ref hsx, .ref hsy, vi ns, vi lf, vi rt, vi tp, vi bt]), (hsx, aI g 10 P), (hsy, aI g 10 Q)]) (lv' := [(0, .ref hs)]) rfl rfl ?_
  refine r_aload_n C dX9_findBox_0 0 rfl ?_
  refine r_aload_n C dX9_findBox_1 0 rfl ?_
  refine gf_X9_9 C dX9_findBox_2 0 rfl rfl ?_
  refine r_iconst C dX9_findBox_5 ?_
  refine r_iald C dX9_findBox_6 1 rfl rfl (by omega) ?_
  have b_6 := hP 0 (by omega) (by omega)
  refine pf_X9_22 C (ws' := [(hs, oB 8 [.ref hsx, .ref hsy, vi ns, vi (P 0), vi rt, vi tp, vi bt]), (hsx, aI g 10 P), (hsy, aI g 10 Q)]) dX9_findBox_7 0 rfl (Nat.le_of_ble_eq_true rfl) rfl ?_
  refine r_aload_n C dX9_findBox_10 0 rfl ?_
  refine r_aload_n C dX9_findBox_11 0 rfl ?_
  refine gf_X9_9 C dX9_findBox_12 0 rfl rfl ?_
  refine r_iconst C dX9_findBox_15 ?_
  refine r_iald C dX9_findBox_16 1 rfl rfl (by omega) ?_
  have b_16 := hP 0 (by omega) (by omega)
  refine pf_X9_25 C (ws' := [(hs, oB 8 [.ref hsx, .ref hsy, vi ns, vi (P 0), vi (P 0), vi tp, vi bt]), (hsx, aI g 10 P), (hsy, aI g 10 Q)]) dX9_findBox_17 0 rfl (Nat.le_of_ble_eq_true rfl) rfl ?_
  refine r_aload_n C dX9_findBox_20 0 rfl ?_
  refine r_aload_n C dX9_findBox_21 0 rfl ?_
  refine gf_X9_15 C dX9_findBox_22 0 rfl rfl ?_
  refine r_iconst C dX9_findBox_25 ?_
  refine r_iald C dX9_findBox_26 2 rfl rfl (by omega) ?_
  have b_26 := hQ 0 (by omega) (by omega)
  refine pf_X9_28 C (ws' := [(hs, oB 8 [.ref hsx, .ref hsy, vi ns, vi (P 0), vi (P 0), vi (Q 0), vi bt]), (hsx, aI g 10 P), (hsy, aI g 10 Q)]) dX9_findBox_27 0 rfl (Nat.le_of_ble_eq_true rfl) rfl ?_
  refine r_aload_n C dX9_findBox_30 0 rfl ?_
  refine r_aload_n C dX9_findBox_31 0 rfl ?_
  refine gf_X9_15 C dX9_findBox_32 0 rfl rfl ?_
  refine r_iconst C dX9_findBox_35 ?_
  refine r_iald C dX9_findBox_36 2 rfl rfl (by omega) ?_
  have b_36 := hQ 0 (by omega) (by omega)
  refine pf_X9_31 C (ws' := [(hs, oB 8 [.ref hsx, .ref hsy, vi ns, vi (P 0), vi (P 0), vi (Q 0), vi (Q 0)]), (hsx, aI g 10 P), (hsy, aI g 10 Q)]) dX9_findBox_37 0 rfl (Nat.le_of_ble_eq_true rfl) rfl ?_
  refine r_iconst C dX9_findBox_40 ?_
  refine r_istore_n C (lv' := [(1, vi 1), (0, .ref hs)]) dX9_findBox_41 rfl rfl ?_
  refine r_lv (lv' := [(0, .ref hs), (1, vi 1)]) [1, 0] rfl ?_
  refine r_loop (σ := Int × Int × Int × Int × Int) (fun z_ => (1 ≤ z_.1 ∧ z_.1 ≤ ns) ∧ (-30 ≤ z_.2.1 ∧ z_.2.1 ≤ 30 ∧ -30 ≤ z_.2.2.1 ∧ z_.2.2.1 ≤ 30 ∧ -30 ≤ z_.2.2.2.1 ∧ z_.2.2.2.1 ≤ 30 ∧ -30 ≤ z_.2.2.2.2 ∧ z_.2.2.2.2 ≤ 30) ∧ (BX P Q z_.1 z_.2.1 z_.2.2.1 z_.2.2.2.1 z_.2.2.2.2)) (fun z_ => ns - z_.1) (fun z_ => [(hs, oB 8 [.ref hsx, .ref hsy, vi ns, vi z_.2.1, vi z_.2.2.1, vi z_.2.2.2.1, vi z_.2.2.2.2]), (hsx, aI g 10 P), (hsy, aI g 10 Q)]) (fun z_ => [(0, .ref hs), (1, vi z_.1)]) (fun z_ hz => ?_) (fun z_ hz ih_42 => ?_) (((1, P 0, P 0, Q 0, Q 0) : Int × Int × Int × Int × Int)) ?_
  · obtain ⟨i, l1, r1, t1, b1⟩ := z_
    obtain ⟨hi, hl, hB⟩ := hz
    have hi : 1 ≤ i ∧ i ≤ ns := hi
    have hl : -30 ≤ l1 ∧ l1 ≤ 30 ∧ -30 ≤ r1 ∧ r1 ≤ 30 ∧ -30 ≤ t1 ∧ t1 ≤ 30 ∧ -30 ≤ b1 ∧ b1 ≤ 30 := hl
    have hB : BX P Q i l1 r1 t1 b1 := hB
    show (0 : Int) ≤ ns - i
    omega
  rotate_left
  · show (1 ≤ 1 ∧ 1 ≤ ns) ∧ (-30 ≤ (P 0) ∧ (P 0) ≤ 30 ∧ -30 ≤ (P 0) ∧ (P 0) ≤ 30 ∧ -30 ≤ (Q 0) ∧ (Q 0) ≤ 30 ∧ -30 ≤ (Q 0) ∧ (Q 0) ≤ 30) ∧ (BX P Q 1 (P 0) (P 0) (Q 0) (Q 0))
    exact ⟨(by omega), (by omega), (BX_1 P Q)⟩
  obtain ⟨i, l1, r1, t1, b1⟩ := z_
  obtain ⟨hi, hl, hB⟩ := hz
  have hi : 1 ≤ i ∧ i ≤ ns := hi
  have hl : -30 ≤ l1 ∧ l1 ≤ 30 ∧ -30 ≤ r1 ∧ r1 ≤ 30 ∧ -30 ≤ t1 ∧ t1 ≤ 30 ∧ -30 ≤ b1 ∧ b1 ≤ 30 := hl
  have hB : BX P Q i l1 r1 t1 b1 := hB
  refine r_at (ws' := [(hs, oB 8 [.ref hsx, .ref hsy, vi ns, vi l1, vi r1, vi t1, vi b1]), (hsx, aI g 10 P), (hsy, aI g 10 Q)]) (lv' := [(0, .ref hs), (1, vi i)]) rfl rfl ?_
  refine r_iload_n C dX9_findBox_42 1 rfl ?_
  refine r_aload_n C dX9_findBox_43 0 rfl ?_
  refine gf_X9_18 C dX9_findBox_44 0 rfl rfl ?_
  refine r_icmp_ge C 124 dX9_findBox_47 rfl (by omega) (fun c_1 => ?_) (fun c_1 => ?_)
  · skip
    exact e_v C (l1, r1, t1, b1) dX9_findBox_124 (show BX P Q ns l1 r1 t1 b1 from by rw [show ns = i by omega]; exact hB) rfl
  · skip
    refine r_aload_n C dX9_findBox_50 0 rfl ?_
    refine r_aload_n C dX9_findBox_51 0 rfl ?_
    refine gf_X9_22 C dX9_findBox_52 0 rfl rfl ?_
    refine r_aload_n C dX9_findBox_55 0 rfl ?_
    refine gf_X9_9 C dX9_findBox_56 0 rfl rfl ?_
    refine r_iload_n C dX9_findBox_59 1 rfl ?_
    refine r_iald C dX9_findBox_60 1 rfl rfl (by omega) ?_
    have b_60 := hP i (by omega) (by omega)
    refine r_mmin C (in_r24 (List.mem_of_getElem? (i := 19) rfl)) dX9_findBox_61 ⟨rfl, rfl, rfl, rfl⟩ (by omega) ?_
    refine pf_X9_22 C (ws' := [(hs, oB 8 [.ref hsx, .ref hsy, vi ns, vi (min l1 (P i)), vi r1, vi t1, vi b1]), (hsx, aI g 10 P), (hsy, aI g 10 Q)]) dX9_findBox_64 0 rfl (Nat.le_of_ble_eq_true rfl) rfl ?_
    refine r_aload_n C dX9_findBox_67 0 rfl ?_
    refine r_aload_n C dX9_findBox_68 0 rfl ?_
    refine gf_X9_25 C dX9_findBox_69 0 rfl rfl ?_
    refine r_aload_n C dX9_findBox_72 0 rfl ?_
    refine gf_X9_9 C dX9_findBox_73 0 rfl rfl ?_
    refine r_iload_n C dX9_findBox_76 1 rfl ?_
    refine r_iald C dX9_findBox_77 1 rfl rfl (by omega) ?_
    have b_77 := hP i (by omega) (by omega)
    refine r_mmax C (in_r24 (List.mem_of_getElem? (i := 20) rfl)) dX9_findBox_78 ⟨rfl, rfl, rfl, rfl⟩ (by omega) ?_
    refine pf_X9_25 C (ws' := [(hs, oB 8 [.ref hsx, .ref hsy, vi ns, vi (min l1 (P i)), vi (max r1 (P i)), vi t1, vi b1]), (hsx, aI g 10 P), (hsy, aI g 10 Q)]) dX9_findBox_81 0 rfl (Nat.le_of_ble_eq_true rfl) rfl ?_
    refine r_aload_n C dX9_findBox_84 0 rfl ?_
    refine r_aload_n C dX9_findBox_85 0 rfl ?_
    refine gf_X9_28 C dX9_findBox_86 0 rfl rfl ?_
    refine r_aload_n C dX9_findBox_89 0 rfl ?_
    refine gf_X9_15 C dX9_findBox_90 0 rfl rfl ?_
    refine r_iload_n C dX9_findBox_93 1 rfl ?_
    refine r_iald C dX9_findBox_94 2 rfl rfl (by omega) ?_
    have b_94 := hQ i (by omega) (by omega)
    refine r_mmin C (in_r24 (List.mem_of_getElem? (i := 19) rfl)) dX9_findBox_95 ⟨rfl, rfl, rfl, rfl⟩ (by omega) ?_
    refine pf_X9_28 C (ws' := [(hs, oB 8 [.ref hsx, .ref hsy, vi ns, vi (min l1 (P i)), vi (max r1 (P i)), vi (min t1 (Q i)), vi b1]), (hsx, aI g 10 P), (hsy, aI g 10 Q)]) dX9_findBox_98 0 rfl (Nat.le_of_ble_eq_true rfl) rfl ?_
    refine r_aload_n C dX9_findBox_101 0 rfl ?_
    refine r_aload_n C dX9_findBox_102 0 rfl ?_
    refine gf_X9_31 C dX9_findBox_103 0 rfl rfl ?_
    refine r_aload_n C dX9_findBox_106 0 rfl ?_
    refine gf_X9_15 C dX9_findBox_107 0 rfl rfl ?_
    refine r_iload_n C dX9_findBox_110 1 rfl ?_
    refine r_iald C dX9_findBox_111 2 rfl rfl (by omega) ?_
    have b_111 := hQ i (by omega) (by omega)
    refine r_mmax C (in_r24 (List.mem_of_getElem? (i := 20) rfl)) dX9_findBox_112 ⟨rfl, rfl, rfl, rfl⟩ (by omega) ?_
    refine pf_X9_31 C (ws' := [(hs, oB 8 [.ref hsx, .ref hsy, vi ns, vi (min l1 (P i)), vi (max r1 (P i)), vi (min t1 (Q i)), vi (max b1 (Q i))]), (hsx, aI g 10 P), (hsy, aI g 10 Q)]) dX9_findBox_115 0 rfl (Nat.le_of_ble_eq_true rfl) rfl ?_
    refine r_iinc C (lv' := [(1, vi (i + 1)), (0, .ref hs)]) dX9_findBox_118 1 rfl rfl rfl ?_
    refine r_goto C 42 dX9_findBox_121 rfl ?_
    refine r_lv (lv' := [(0, .ref hs), (1, vi (i + 1))]) [1, 0] rfl ?_
    exact ih_42 (i + 1, min l1 (P i), max r1 (P i), min t1 (Q i), max b1 (Q i)) (show (1 ≤ (i + 1) ∧ (i + 1) ≤ ns) ∧ (-30 ≤ (min l1 (P i)) ∧ (min l1 (P i)) ≤ 30 ∧ -30 ≤ (max r1 (P i)) ∧ (max r1 (P i)) ≤ 30 ∧ -30 ≤ (min t1 (Q i)) ∧ (min t1 (Q i)) ≤ 30 ∧ -30 ≤ (max b1 (Q i)) ∧ (max b1 (Q i)) ≤ 30) ∧ (BX P Q (i + 1) (min l1 (P i)) (max r1 (P i)) (min t1 (Q i)) (max b1 (Q i))) from ⟨(by omega), (by omega), (BX_s (by omega) hB)⟩) (show ns - (i + 1) < ns - i from by omega)
set_option maxHeartbeats 1000000 in
set_option maxRecDepth 100000 in
theorem c_X9_isInside (l : Launch) (g : Gx) (hs : Nat) (hsx : Nat) (hsy : Nat) (P : Int → Int) (Q : Int → Int) (ns : Int) (lf : Int) (rt : Int) (tp : Int) (bt : Int) (w : Int) (h : Int) (x : Int) (y : Int) (hb : -30 ≤ lf ∧ lf ≤ 30 ∧ -30 ≤ rt ∧ rt ≤ 30 ∧ -30 ≤ tp ∧ tp ≤ 30 ∧ -30 ≤ bt ∧ bt ≤ 30) (hw : 4 ≤ w ∧ w ≤ 11 ∧ 4 ≤ h ∧ h ≤ 11) (hx : -1000 ≤ x ∧ x ≤ 1000 ∧ -1000 ≤ y ∧ y ≤ 1000) (sz : Nat) : Met l yX9_isInside (.code yX9_isInside cX9_isInside 5 (some .boolean) :: wsL_law) { frames := 0, cells := 0, slots := 0, locals := 0 } (PR g [.ref hs, vi w, vi h, vi x, vi y] [(hs, oB 8 [.ref hsx, .ref hsy, vi ns, vi lf, vi rt, vi tp, vi bt]), (hsx, aI g 10 P), (hsy, aI g 10 Q)] sz) (PI (S := Unit) g (fun r u_ => (r = 1 ∧ 0 ≤ x + lf ∧ x + rt < w ∧ 0 ≤ y + tp ∧ y + bt < h) ∨ (r = 0 ∧ ¬ (0 ≤ x + lf ∧ x + rt < w ∧ 0 ≤ y + tp ∧ y + bt < h))) (fun u_ => [(hs, oB 8 [.ref hsx, .ref hsy, vi ns, vi lf, vi rt, vi tp, vi bt]), (hsx, aI g 10 P), (hsy, aI g 10 Q)]) [(hs, oB 8 [.ref hsx, .ref hsy, vi ns, vi lf, vi rt, vi tp, vi bt]), (hsx, aI g 10 P), (hsy, aI g 10 Q)] sz) 0 0 (va_A [(hs, oB 8 [.ref hsx, .ref hsy, vi ns, vi lf, vi rt, vi tp, vi bt]), (hsx, aI g 10 P), (hsy, aI g 10 Q)] sz) := by
  refine meet (own := RX9) rfl (plainFor_of_name (by decide +kernel)) rfl (fun p_ e_ s_ m_ args_ below_ meth_ c_ C hnm => ?_)
  refine r_at (ws' := [(hs, oB 8 [.ref hsx, .ref hsy, vi ns, vi lf, vi rt, vi tp, vi bt]), (hsx, aI g 10 P), (hsy, aI g 10 Q)]) (lv' := [(0, .ref hs), (1, vi w), (2, vi h), (3, vi x), (4, vi y)]) rfl rfl ?_
  refine r_iload_n C dX9_isInside_0 3 rfl ?_
  refine r_aload_n C dX9_isInside_1 0 rfl ?_
  refine gf_X9_22 C dX9_isInside_2 0 rfl rfl ?_
  refine r_iadd C dX9_isInside_5 ?_
  refine r_if_lt C 44 dX9_isInside_6 rfl (by omega) (fun c_1 => ?_) (fun c_1 => ?_)
  · skip
    refine r_iconst C dX9_isInside_44 ?_
    exact e_z C () dX9_isInside_45 (by omega) (show (0 = 1 ∧ 0 ≤ x + lf ∧ x + rt < w ∧ 0 ≤ y + tp ∧ y + bt < h) ∨ (0 = 0 ∧ ¬ (0 ≤ x + lf ∧ x + rt < w ∧ 0 ≤ y + tp ∧ y + bt < h)) from by omega) rfl
  · skip
    refine r_iload_n C dX9_isInside_9 3 rfl ?_
    refine r_aload_n C dX9_isInside_10 0 rfl ?_
    refine gf_X9_25 C dX9_isInside_11 0 rfl rfl ?_
    refine r_iadd C dX9_isInside_14 ?_
    refine r_iload_n C dX9_isInside_15 1 rfl ?_
    refine r_icmp_ge C 44 dX9_isInside_16 rfl (by omega) (fun c_2 => ?_) (fun c_2 => ?_)
    · skip
      refine r_iconst C dX9_isInside_44 ?_
      exact e_z C () dX9_isInside_45 (by omega) (show (0 = 1 ∧ 0 ≤ x + lf ∧ x + rt < w ∧ 0 ≤ y + tp ∧ y + bt < h) ∨ (0 = 0 ∧ ¬ (0 ≤ x + lf ∧ x + rt < w ∧ 0 ≤ y + tp ∧ y + bt < h)) from by omega) rfl
    · skip
      refine r_iload C dX9_isInside_19 4 rfl ?_
      refine r_aload_n C dX9_isInside_21 0 rfl ?_
      refine gf_X9_28 C dX9_isInside_22 0 rfl rfl ?_
      refine r_iadd C dX9_isInside_25 ?_
      refine r_if_lt C 44 dX9_isInside_26 rfl (by omega) (fun c_3 => ?_) (fun c_3 => ?_)
      · skip
        refine r_iconst C dX9_isInside_44 ?_
        exact e_z C () dX9_isInside_45 (by omega) (show (0 = 1 ∧ 0 ≤ x + lf ∧ x + rt < w ∧ 0 ≤ y + tp ∧ y + bt < h) ∨ (0 = 0 ∧ ¬ (0 ≤ x + lf ∧ x + rt < w ∧ 0 ≤ y + tp ∧ y + bt < h)) from by omega) rfl
      · skip
        refine r_iload C dX9_isInside_29 4 rfl ?_
        refine r_aload_n C dX9_isInside_31 0 rfl ?_
        refine gf_X9_31 C dX9_isInside_32 0 rfl rfl ?_
        refine r_iadd C dX9_isInside_35 ?_
        refine r_iload_n C dX9_isInside_36 2 rfl ?_
        refine r_icmp_ge C 44 dX9_isInside_37 rfl (by omega) (fun c_4 => ?_) (fun c_4 => ?_)
        · skip
          refine r_iconst C dX9_isInside_44 ?_
          exact e_z C () dX9_isInside_45 (by omega) (show (0 = 1 ∧ 0 ≤ x + lf ∧ x + rt < w ∧ 0 ≤ y + tp ∧ y + bt < h) ∨ (0 = 0 ∧ ¬ (0 ≤ x + lf ∧ x + rt < w ∧ 0 ≤ y + tp ∧ y + bt < h)) from by omega) rfl
        · skip
          refine r_iconst C dX9_isInside_40 ?_
          refine r_goto C 45 dX9_isInside_41 rfl ?_
          exact e_z C () dX9_isInside_45 (by omega) (show (1 = 1 ∧ 0 ≤ x + lf ∧ x + rt < w ∧ 0 ≤ y + tp ∧ y + bt < h) ∨ (1 = 0 ∧ ¬ (0 ≤ x + lf ∧ x + rt < w ∧ 0 ≤ y + tp ∧ y + bt < h)) from by omega) rfl
set_option maxHeartbeats 1000000 in
set_option maxRecDepth 100000 in
theorem c_X9_form (l : Launch) (g : Gx) (h0 : Nat) (h0r : Nat) (h0x : Nat) (h0y : Nat) (w : Int) (h : Int) (n : Int) (m : Int) (c : Int) (X : Int → Int) (Y : Int → Int) (hs : Nat) (hsx : Nat) (hsy : Nat) (P : Int → Int) (Q : Int → Int) (ns : Int) (lf : Int) (rt : Int) (tp : Int) (bt : Int) (s : Int) (t : Int) (fl : Int) (hn : 1 ≤ n ∧ n ≤ 10) (hX : ∀ k : Int, 0 ≤ k → k < n → -5 ≤ X k ∧ X k ≤ 5) (hY : ∀ k : Int, 0 ≤ k → k < n → -5 ≤ Y k ∧ Y k ≤ 5) (hs3 : s = 2 ∨ s = 3 ∨ s = 4) (ht : 0 ≤ t ∧ t ≤ 3) (hfl : fl = 0 ∨ fl = 1) (sz : Nat) : Met l yX9_form (.code yX9_form cX9_form 10 none :: wsL_law) { frames := 2, cells := 0, slots := 0, locals := 35 } (PR g [.ref hs, .ref h0, vi s, vi t, vi fl] [(h0, oB 6 [vi w, vi h, .ref h0r, .ref h0x, .ref h0y, vi n, vi m, vi c]), (h0x, aI g 10 X), (h0y, aI g 10 Y), (hs, oB 8 [.ref hsx, .ref hsy, vi ns, vi lf, vi rt, vi tp, vi bt]), (hsx, aI g 10 P), (hsy, aI g 10 Q)] sz) (PV (S := (Int → Int) × (Int → Int) × Int × Int × Int × Int) g (fun u_ => SHP X Y n s t fl u_.1 u_.2.1 u_.2.2.1 u_.2.2.2.1 u_.2.2.2.2.1 u_.2.2.2.2.2) (fun u_ => [(h0, oB 6 [vi w, vi h, .ref h0r, .ref h0x, .ref h0y, vi n, vi m, vi c]), (h0x, aI g 10 X), (h0y, aI g 10 Y), (hs, oB 8 [.ref hsx, .ref hsy, vi n, vi u_.2.2.1, vi u_.2.2.2.1, vi u_.2.2.2.2.1, vi u_.2.2.2.2.2]), (hsx, aI g 10 u_.1), (hsy, aI g 10 u_.2.1)]) [(h0, oB 6 [vi w, vi h, .ref h0r, .ref h0x, .ref h0y, vi n, vi m, vi c]), (h0x, aI g 10 X), (h0y, aI g 10 Y), (hs, oB 8 [.ref hsx, .ref hsy, vi ns, vi lf, vi rt, vi tp, vi bt]), (hsx, aI g 10 P), (hsy, aI g 10 Q)] sz) 0 0 (va_A [(h0, oB 6 [vi w, vi h, .ref h0r, .ref h0x, .ref h0y, vi n, vi m, vi c]), (h0x, aI g 10 X), (h0y, aI g 10 Y), (hs, oB 8 [.ref hsx, .ref hsy, vi ns, vi lf, vi rt, vi tp, vi bt]), (hsx, aI g 10 P), (hsy, aI g 10 Q)] sz) := by
  refine meet (own := RX9) rfl (plainFor_of_name (by decide +kernel)) rfl (fun p_ e_ s_ m_ args_ below_ meth_ c_ C hnm => ?_)
  refine r_at (ws' := [(h0, oB 6 [vi w, vi h, .ref h0r, .ref h0x, .ref h0y, vi n, vi m, vi c]), (h0x, aI g 10 X), (h0y, aI g 10 Y), (hs, oB 8 [.ref hsx, .ref hsy, vi ns, vi lf, vi rt, vi tp, vi bt]), (hsx, aI g 10 P), (hsy, aI g 10 Q)]) (lv' := [(0, .ref hs), (1, .ref h0), (2, vi s), (3, vi t), (4, vi fl)]) rfl rfl ?_
  refine r_aload_n C dX9_form_0 0 rfl ?_
  refine r_aload_n C dX9_form_1 1 rfl ?_
  refine gf_X9_34 C dX9_form_2 0 rfl rfl ?_
  refine pf_X9_18 C (ws' := [(h0, oB 6 [vi w, vi h, .ref h0r, .ref h0x, .ref h0y, vi n, vi m, vi c]), (h0x, aI g 10 X), (h0y, aI g 10 Y), (hs, oB 8 [.ref hsx, .ref hsy, vi n, vi lf, vi rt, vi tp, vi bt]), (hsx, aI g 10 P), (hsy, aI g 10 Q)]) dX9_form_5 3 rfl (Nat.le_of_ble_eq_true rfl) rfl ?_
  refine r_iconst C dX9_form_8 ?_
  refine r_istore C (lv' := [(5, vi 0), (0, .ref hs), (1, .ref h0), (2, vi s), (3, vi t), (4, vi fl)]) dX9_form_9 rfl rfl ?_
  refine r_lv (lv' := [(0, .ref hs), (1, .ref h0), (2, vi s), (3, vi t), (4, vi fl), (5, vi 0)]) [1, 2, 3, 4, 5, 0] rfl ?_
  refine r_loop (σ := Int × (Int → Int) × (Int → Int)) (fun z_ => (0 ≤ z_.1 ∧ z_.1 ≤ n) ∧ (∀ k : Int, 0 ≤ k → k < z_.1 → z_.2.1 k = lX s t fl (X k) (Y k)) ∧ (∀ k : Int, 0 ≤ k → k < z_.1 → z_.2.2 k = lY s t fl (X k) (Y k))) (fun z_ => n - z_.1) (fun z_ => [(h0, oB 6 [vi w, vi h, .ref h0r, .ref h0x, .ref h0y, vi n, vi m, vi c]), (h0x, aI g 10 X), (h0y, aI g 10 Y), (hs, oB 8 [.ref hsx, .ref hsy, vi n, vi lf, vi rt, vi tp, vi bt]), (hsx, aI g 10 z_.2.1), (hsy, aI g 10 z_.2.2)]) (fun z_ => [(0, .ref hs), (1, .ref h0), (2, vi s), (3, vi t), (4, vi fl), (5, vi z_.1)]) (fun z_ hz => ?_) (fun z_ hz ih_11 => ?_) (((0, P, Q) : Int × (Int → Int) × (Int → Int))) ?_
  · obtain ⟨d, P1, Q1⟩ := z_
    obtain ⟨hd, hP1, hQ1⟩ := hz
    have hd : 0 ≤ d ∧ d ≤ n := hd
    have hP1 : ∀ k : Int, 0 ≤ k → k < d → P1 k = lX s t fl (X k) (Y k) := hP1
    have hQ1 : ∀ k : Int, 0 ≤ k → k < d → Q1 k = lY s t fl (X k) (Y k) := hQ1
    show (0 : Int) ≤ n - d
    omega
  rotate_left
  · show (0 ≤ 0 ∧ 0 ≤ n) ∧ (∀ k : Int, 0 ≤ k → k < 0 → P k = lX s t fl (X k) (Y k)) ∧ (∀ k : Int, 0 ≤ k → k < 0 → Q k = lY s t fl (X k) (Y k))
    exact ⟨(by omega), (fun k h0 h1 => by omega), (fun k h0 h1 => by omega)⟩
  obtain ⟨d, P1, Q1⟩ := z_
  obtain ⟨hd, hP1, hQ1⟩ := hz
  have hd : 0 ≤ d ∧ d ≤ n := hd
  have hP1 : ∀ k : Int, 0 ≤ k → k < d → P1 k = lX s t fl (X k) (Y k) := hP1
  have hQ1 : ∀ k : Int, 0 ≤ k → k < d → Q1 k = lY s t fl (X k) (Y k) := hQ1
  refine r_at (ws' := [(h0, oB 6 [vi w, vi h, .ref h0r, .ref h0x, .ref h0y, vi n, vi m, vi c]), (h0x, aI g 10 X), (h0y, aI g 10 Y), (hs, oB 8 [.ref hsx, .ref hsy, vi n, vi lf, vi rt, vi tp, vi bt]), (hsx, aI g 10 P1), (hsy, aI g 10 Q1)]) (lv' := [(0, .ref hs), (1, .ref h0), (2, vi s), (3, vi t), (4, vi fl), (5, vi d)]) rfl rfl ?_
  refine r_iload C dX9_form_11 5 rfl ?_
  refine r_aload_n C dX9_form_13 0 rfl ?_
  refine gf_X9_18 C dX9_form_14 3 rfl rfl ?_
  refine r_icmp_ge C 123 dX9_form_17 rfl (by omega) (fun c_1 => ?_) (fun c_1 => ?_)
  · skip
    refine r_aload_n C dX9_form_123 0 rfl ?_
    refine k_Vv C kv_X9_49 (fun sz => c_X9_findBox l g hs hsx hsy P1 Q1 n lf rt tp bt (by omega) (fun k h0 h1 => by rw [hP1 k h0 (by omega)]; exact lX_bd (hX k h0 h1) (hY k h0 h1) hs3) (fun k h0 h1 => by rw [hQ1 k h0 (by omega)]; exact lY_bd (hX k h0 h1) (hY k h0 h1) hs3) sz) dX9_form_124 rfl rfl rfl ⟨rfl, rfl⟩ 3 8 rfl rfl rfl [3, 4, 5] rfl rfl (fun _ => rfl) (ws' := fun u_ => [(h0, oB 6 [vi w, vi h, .ref h0r, .ref h0x, .ref h0y, vi n, vi m, vi c]), (h0x, aI g 10 X), (h0y, aI g 10 Y), (hs, oB 8 [.ref hsx, .ref hsy, vi n, vi u_.1, vi u_.2.1, vi u_.2.2.1, vi u_.2.2.2]), (hsx, aI g 10 P1), (hsy, aI g 10 Q1)]) (fun _ => rfl) (fun u_ p_124 => ?_)
    obtain ⟨l2_124, r2_124, t2_124, b2_124⟩ := u_
    refine r_at (ws' := [(h0, oB 6 [vi w, vi h, .ref h0r, .ref h0x, .ref h0y, vi n, vi m, vi c]), (h0x, aI g 10 X), (h0y, aI g 10 Y), (hs, oB 8 [.ref hsx, .ref hsy, vi n, vi l2_124, vi r2_124, vi t2_124, vi b2_124]), (hsx, aI g 10 P1), (hsy, aI g 10 Q1)]) (lv' := [(0, .ref hs), (1, .ref h0), (2, vi s), (3, vi t), (4, vi fl), (5, vi d)]) rfl rfl ?_
    have p_124 : BX P1 Q1 n l2_124 r2_124 t2_124 b2_124 := p_124
    exact e_v C (P1, Q1, l2_124, r2_124, t2_124, b2_124) dX9_form_127 (show SHP X Y n s t fl P1 Q1 l2_124 r2_124 t2_124 b2_124 from ⟨fun k h0 h1 => hP1 k h0 (by omega), fun k h0 h1 => hQ1 k h0 (by omega), p_124⟩) rfl
  · skip
    refine r_join (σ := Int) 44 (fun z_ => (z_ = (if fl = 1 then -(X d) else X d)) ∧ (-5 ≤ z_ ∧ z_ ≤ 5)) (fun z_ => [(h0, oB 6 [vi w, vi h, .ref h0r, .ref h0x, .ref h0y, vi n, vi m, vi c]), (h0x, aI g 10 X), (h0y, aI g 10 Y), (hs, oB 8 [.ref hsx, .ref hsy, vi n, vi lf, vi rt, vi tp, vi bt]), (hsx, aI g 10 P1), (hsy, aI g 10 Q1)]) (fun z_ => [(0, .ref hs), (1, .ref h0), (2, vi s), (3, vi t), (4, vi fl), (5, vi d)]) (fun z_ => [vi z_]) (fun z_ hz => ?_) (fun J_44 => ?_)
    rotate_left
    · skip
      refine r_iload C dX9_form_20 4 rfl ?_
      refine r_iconst C dX9_form_22 ?_
      refine r_icmp_ne C 37 dX9_form_23 rfl (by omega) (fun c_2 => ?_) (fun c_2 => ?_)
      · skip
        refine r_aload_n C dX9_form_37 1 rfl ?_
        refine gf_X9_37 C dX9_form_38 0 rfl rfl ?_
        refine r_iload C dX9_form_41 5 rfl ?_
        refine r_iald C dX9_form_43 1 rfl rfl (by omega) ?_
        have b_43 := hX d (by omega) (by omega)
        refine r_lv (lv' := [(0, .ref hs), (1, .ref h0), (2, vi s), (3, vi t), (4, vi fl), (5, vi d)]) [0, 1, 2, 3, 4, 5] rfl ?_
        exact J_44 (X d) (show ((X d) = (if fl = 1 then -(X d) else X d)) ∧ (-5 ≤ (X d) ∧ (X d) ≤ 5) from ⟨(by omega), (by omega)⟩)
      · skip
        refine r_aload_n C dX9_form_26 1 rfl ?_
        refine gf_X9_37 C dX9_form_27 0 rfl rfl ?_
        refine r_iload C dX9_form_30 5 rfl ?_
        refine r_iald C dX9_form_32 1 rfl rfl (by omega) ?_
        have b_32 := hX d (by omega) (by omega)
        refine r_ineg C dX9_form_33 ?_
        refine r_goto C 44 dX9_form_34 rfl ?_
        refine r_lv (lv' := [(0, .ref hs), (1, .ref h0), (2, vi s), (3, vi t), (4, vi fl), (5, vi d)]) [0, 1, 2, 3, 4, 5] rfl ?_
        exact J_44 (-(X d)) (show ((-(X d)) = (if fl = 1 then -(X d) else X d)) ∧ (-5 ≤ (-(X d)) ∧ (-(X d)) ≤ 5) from ⟨(by omega), (by omega)⟩)
    obtain ⟨v, rfl⟩ : ∃ w_, w_ = z_ := ⟨_, rfl⟩
    obtain ⟨hv, hv5⟩ := hz
    have hv : v = (if fl = 1 then -(X d) else X d) := hv
    have hv5 : -5 ≤ v ∧ v ≤ 5 := hv5
    refine r_at3 (ws' := [(h0, oB 6 [vi w, vi h, .ref h0r, .ref h0x, .ref h0y, vi n, vi m, vi c]), (h0x, aI g 10 X), (h0y, aI g 10 Y), (hs, oB 8 [.ref hsx, .ref hsy, vi n, vi lf, vi rt, vi tp, vi bt]), (hsx, aI g 10 P1), (hsy, aI g 10 Q1)]) (lv' := [(0, .ref hs), (1, .ref h0), (2, vi s), (3, vi t), (4, vi fl), (5, vi d)]) (st' := [vi v]) rfl rfl rfl ?_
    refine r_istore C (lv' := [(6, vi v), (0, .ref hs), (1, .ref h0), (2, vi s), (3, vi t), (4, vi fl), (5, vi d)]) dX9_form_44 rfl rfl ?_
    refine r_aload_n C dX9_form_46 2 rfl ?_
    refine gf_X9_40 C dX9_form_47 0 rfl rfl ?_
    refine r_iload C dX9_form_50 6 rfl ?_
    refine r_iald C dX9_form_52 2 rfl rfl (by omega) ?_
    have b_52 := hY d (by omega) (by omega)
    refine r_istore C (lv' := [(7, vi (Y d)), (6, vi v), (0, .ref hs), (1, .ref h0), (2, vi s), (3, vi t), (4, vi fl), (5, vi d)]) dX9_form_53 rfl rfl ?_
    refine r_iconst C dX9_form_55 ?_
    refine r_istore C (lv' := [(8, vi 0), (7, vi (Y d)), (6, vi v), (0, .ref hs), (1, .ref h0), (2, vi s), (3, vi t), (4, vi fl), (5, vi d)]) dX9_form_56 rfl rfl ?_
    refine r_lv (lv' := [(0, .ref hs), (1, .ref h0), (2, vi s), (3, vi t), (4, vi fl), (5, vi d), (6, vi v), (7, vi (Y d)), (8, vi 0)]) [3, 4, 5, 6, 7, 8, 2, 1, 0] rfl ?_
    refine r_loop (σ := Int × Int × Int) (fun z_ => (0 ≤ z_.1 ∧ z_.1 ≤ t) ∧ (-5 ≤ z_.2.1 ∧ z_.2.1 ≤ 5 ∧ -5 ≤ z_.2.2 ∧ z_.2.2 ≤ 5) ∧ (z_.2.1 = rX z_.1 v (Y d)) ∧ (z_.2.2 = rY z_.1 v (Y d))) (fun z_ => t - z_.1) (fun z_ => [(h0, oB 6 [vi w, vi h, .ref h0r, .ref h0x, .ref h0y, vi n, vi m, vi c]), (h0x, aI g 10 X), (h0y, aI g 10 Y), (hs, oB 8 [.ref hsx, .ref hsy, vi n, vi lf, vi rt, vi tp, vi bt]), (hsx, aI g 10 P1), (hsy, aI g 10 Q1)]) (fun z_ => [(0, .ref hs), (1, .ref h0), (2, vi s), (3, vi t), (4, vi fl), (5, vi d), (6, vi z_.2.1), (7, vi z_.2.2), (8, vi z_.1)]) (fun z_ hz => ?_) (fun z_ hz ih_58 => ?_) (((0, v, Y d) : Int × Int × Int)) ?_
    · obtain ⟨q, a, b⟩ := z_
      obtain ⟨hq, hab, ha, hb⟩ := hz
      have hq : 0 ≤ q ∧ q ≤ t := hq
      have hab : -5 ≤ a ∧ a ≤ 5 ∧ -5 ≤ b ∧ b ≤ 5 := hab
      have ha : a = rX q v (Y d) := ha
      have hb : b = rY q v (Y d) := hb
      show (0 : Int) ≤ t - q
      omega
    rotate_left
    · show (0 ≤ 0 ∧ 0 ≤ t) ∧ (-5 ≤ v ∧ v ≤ 5 ∧ -5 ≤ (Y d) ∧ (Y d) ≤ 5) ∧ (v = rX 0 v (Y d)) ∧ ((Y d) = rY 0 v (Y d))
      exact ⟨(by omega), (by omega), (by unfold rX; omega), (by unfold rY; omega)⟩
    obtain ⟨q, a, b⟩ := z_
    obtain ⟨hq, hab, ha, hb⟩ := hz
    have hq : 0 ≤ q ∧ q ≤ t := hq
    have hab : -5 ≤ a ∧ a ≤ 5 ∧ -5 ≤ b ∧ b ≤ 5 := hab
    have ha : a = rX q v (Y d) := ha
    have hb : b = rY q v (Y d) := hb
    refine r_at (ws' := [(h0, oB 6 [vi w, vi h, .ref h0r, .ref h0x, .ref h0y, vi n, vi m, vi c]), (h0x, aI g 10 X), (h0y, aI g 10 Y), (hs, oB 8 [.ref hsx, .ref hsy, vi n, vi lf, vi rt, vi tp, vi bt]), (hsx, aI g 10 P1), (hsy, aI g 10 Q1)]) (lv' := [(0, .ref hs), (1, .ref h0), (2, vi s), (3, vi t), (4, vi fl), (5, vi d), (6, vi a), (7, vi b), (8, vi q)]) rfl rfl ?_
    refine r_iload C dX9_form_58 8 rfl ?_
    refine r_iload_n C dX9_form_60 3 rfl ?_
    refine r_icmp_ge C 83 dX9_form_61 rfl (by omega) (fun c_3 => ?_) (fun c_3 => ?_)
    · skip
      refine r_aload_n C dX9_form_83 0 rfl ?_
      refine gf_X9_9 C dX9_form_84 3 rfl rfl ?_
      refine r_iload C dX9_form_87 5 rfl ?_
      refine r_iload C dX9_form_89 6 rfl ?_
      refine r_iload_n C dX9_form_91 2 rfl ?_
      refine r_imul C dX9_form_92 ?_
      refine r_iconst C dX9_form_93 ?_
      refine r_iadd C dX9_form_94 ?_
      refine r_iconst C dX9_form_95 ?_
      refine k_Si C ks_X9_43 (fun sz => c_J9_floorDiv_7cf53 l g ((a * s) + 1) (by rcases hs3 with rfl | rfl | rfl <;> omega) sz) dX9_form_96 rfl rfl rfl ⟨rfl, rfl⟩ [] rfl rfl (fun _ => rfl) (ws' := fun u_ => [(h0, oB 6 [vi w, vi h, .ref h0r, .ref h0x, .ref h0y, vi n, vi m, vi c]), (h0x, aI g 10 X), (h0y, aI g 10 Y), (hs, oB 8 [.ref hsx, .ref hsy, vi n, vi lf, vi rt, vi tp, vi bt]), (hsx, aI g 10 P1), (hsy, aI g 10 Q1)]) (fun _ => rfl) (fun r_96 u_ p_96 => ?_)
      have p_96 : r_96 = ((a * s) + 1) / 2 := p_96
      refine r_iast C (ws' := [(h0, oB 6 [vi w, vi h, .ref h0r, .ref h0x, .ref h0y, vi n, vi m, vi c]), (h0x, aI g 10 X), (h0y, aI g 10 Y), (hs, oB 8 [.ref hsx, .ref hsy, vi n, vi lf, vi rt, vi tp, vi bt]), (hsx, aI g 10 (zU P1 d r_96)), (hsy, aI g 10 Q1)]) dX9_form_99 4 rfl rfl (by omega) rfl ?_
      refine r_aload_n C dX9_form_100 0 rfl ?_
      refine gf_X9_15 C dX9_form_101 3 rfl rfl ?_
      refine r_iload C dX9_form_104 5 rfl ?_
      refine r_iload C dX9_form_106 7 rfl ?_
      refine r_iload_n C dX9_form_108 2 rfl ?_
      refine r_imul C dX9_form_109 ?_
      refine r_iconst C dX9_form_110 ?_
      refine r_iadd C dX9_form_111 ?_
      refine r_iconst C dX9_form_112 ?_
      refine k_Si C ks_X9_43 (fun sz => c_J9_floorDiv_7cf53 l g ((b * s) + 1) (by rcases hs3 with rfl | rfl | rfl <;> omega) sz) dX9_form_113 rfl rfl rfl ⟨rfl, rfl⟩ [] rfl rfl (fun _ => rfl) (ws' := fun u_ => [(h0, oB 6 [vi w, vi h, .ref h0r, .ref h0x, .ref h0y, vi n, vi m, vi c]), (h0x, aI g 10 X), (h0y, aI g 10 Y), (hs, oB 8 [.ref hsx, .ref hsy, vi n, vi lf, vi rt, vi tp, vi bt]), (hsx, aI g 10 (zU P1 d r_96)), (hsy, aI g 10 Q1)]) (fun _ => rfl) (fun r_113 u_ p_113 => ?_)
      have p_113 : r_113 = ((b * s) + 1) / 2 := p_113
      refine r_iast C (ws' := [(h0, oB 6 [vi w, vi h, .ref h0r, .ref h0x, .ref h0y, vi n, vi m, vi c]), (h0x, aI g 10 X), (h0y, aI g 10 Y), (hs, oB 8 [.ref hsx, .ref hsy, vi n, vi lf, vi rt, vi tp, vi bt]), (hsx, aI g 10 (zU P1 d r_96)), (hsy, aI g 10 (zU Q1 d r_113))]) dX9_form_116 5 rfl rfl (by omega) rfl ?_
      refine r_iinc C (lv' := [(5, vi (d + 1)), (0, .ref hs), (1, .ref h0), (2, vi s), (3, vi t), (4, vi fl), (6, vi a), (7, vi b), (8, vi q)]) dX9_form_117 5 rfl rfl rfl ?_
      refine r_goto C 11 dX9_form_120 rfl ?_
      refine r_lv (lv' := [(0, .ref hs), (1, .ref h0), (2, vi s), (3, vi t), (4, vi fl), (5, vi (d + 1))]) [1, 2, 3, 4, 5, 0] rfl ?_
      exact ih_11 (d + 1, zU P1 d r_96, zU Q1 d r_113) (show (0 ≤ (d + 1) ∧ (d + 1) ≤ n) ∧ (∀ k : Int, 0 ≤ k → k < (d + 1) → (zU P1 d r_96) k = lX s t fl (X k) (Y k)) ∧ (∀ k : Int, 0 ≤ k → k < (d + 1) → (zU Q1 d r_113) k = lY s t fl (X k) (Y k)) from ⟨(by omega), (zU_all hP1 (by rw [p_96, ha, show q = t by omega, hv]; rfl)), (zU_all hQ1 (by rw [p_113, hb, show q = t by omega, hv]; rfl))⟩) (show n - (d + 1) < n - d from by omega)
    · skip
      refine r_iload C dX9_form_64 6 rfl ?_
      refine r_istore C (lv' := [(9, vi a), (0, .ref hs), (1, .ref h0), (2, vi s), (3, vi t), (4, vi fl), (5, vi d), (6, vi a), (7, vi b), (8, vi q)]) dX9_form_66 rfl rfl ?_
      refine r_iload C dX9_form_68 8 rfl ?_
      refine r_ineg C dX9_form_70 ?_
      refine r_istore C (lv' := [(6, vi (-b)), (9, vi a), (0, .ref hs), (1, .ref h0), (2, vi s), (3, vi t), (4, vi fl), (5, vi d), (7, vi b), (8, vi q)]) dX9_form_71 rfl rfl ?_
      refine r_iload C dX9_form_73 1 rfl ?_
      refine r_istore C (lv' := [(7, vi a), (6, vi (-b)), (9, vi a), (0, .ref hs), (1, .ref h0), (2, vi s), (3, vi t), (4, vi fl), (5, vi d), (8, vi q)]) dX9_form_75 rfl rfl ?_
      refine r_iinc C (lv' := [(8, vi (q + 1)), (7, vi a), (6, vi (-b)), (9, vi a), (0, .ref hs), (1, .ref h0), (2, vi s), (3, vi t), (4, vi fl), (5, vi d)]) dX9_form_77 9 rfl rfl rfl ?_
      refine r_goto C 58 dX9_form_80 rfl ?_
      refine r_lv (lv' := [(0, .ref hs), (1, .ref h0), (2, vi s), (3, vi t), (4, vi fl), (5, vi d), (6, vi (-b)), (7, vi a), (8, vi (q + 1))]) [4, 5, 6, 7, 8, 9, 2, 1, 0] rfl ?_
      exact ih_58 (q + 1, -b, a) (show (0 ≤ (q + 1) ∧ (q + 1) ≤ t) ∧ (-5 ≤ (-b) ∧ (-b) ≤ 5 ∧ -5 ≤ a ∧ a ≤ 5) ∧ ((-b) = rX (q + 1) v (Y d)) ∧ (a = rY (q + 1) v (Y d)) from ⟨(by omega), (by omega), (by rw [hb]; unfold rX rY; omega), (by rw [ha]; unfold rX rY; omega)⟩) (show t - (q + 1) < t - q from by omega)
