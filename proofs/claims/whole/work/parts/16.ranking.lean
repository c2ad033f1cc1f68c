theorem BX_b {P Q : Int → Int} {n lf rt tp bt : Int} (hn : 1 ≤ n) (hP : ∀ d : Int, 0 ≤ d → d < n → -30 ≤ P d ∧ P d ≤ 30) (hQ : ∀ d : Int, 0 ≤ d → d < n → -30 ≤ Q d ∧ Q d ≤ 30) (h : BX P Q n lf rt tp bt) : -30 ≤ lf ∧ lf ≤ 30 ∧ -30 ≤ rt ∧ rt ≤ 30 ∧ -30 ≤ tp ∧ tp ≤ 30 ∧ -30 ≤ bt ∧ bt ≤ 30 := by
  obtain ⟨-, ⟨a, a0, a1, ea⟩, ⟨b, b0, b1, eb⟩, ⟨c, c0, c1, ec⟩, ⟨d, d0, d1, ed⟩⟩ := h
  have := hP a a0 a1
  have := hP b b0 b1
  have := hQ c c0 c1
  have := hQ d d0 d1
  omega
/-- six places -/
def q6 (a0 a1 a2 a3 a4 a5 : Nat) : Nat → Option Nat := fun j => if j = 0 then some a0 else if j = 1 then some a1 else if j = 2 then some a2 else if j = 3 then some a3 else if j = 4 then some a4 else if j = 5 then some a5 else none
abbrev SCT : Type := Int × Int × (Int → Int) × (Int → Int) × (Int → Int) × Int × Int × Int
def upS (G : Int → SCT) (i : Int) (v : SCT) : Int → SCT := fun k => if k = i then v else G k
set_option maxHeartbeats 1000000 in
set_option maxRecDepth 100000 in
theorem c_X5_enter (l : Launch) (g : Gx) (hr : Nat) (hrs : Nat) (hrf : Nat) (hr1 : Nat) (hr2 : Nat) (hr3 : Nat) (hr4 : Nat) (fo : Int) (cc : Int) (cb : Int) (T : Int → Int) (Fp : Int → Int) (S : Int → Prop) (x : Int) (pl : Int) (hT : TOP S T fo) (hF : FAP S Fp) (hR : RNG S) (hn : ¬ S x) (hx : 0 ≤ x ∧ x < 1073741824) (hp : x % 121 = pl) (sz : Nat) : Met l yX5_enter (.code yX5_enter cX5_enter 4 none :: wsL_law) { frames := 1, cells := 0, slots := 0, locals := 15 } (PR g [.ref hr, vi x, vi pl] [(hr, oB 4 [.ref hrs, .ref hrf, .ref hr1, vi fo, .ref hr2, .ref hr3, .ref hr4, vi cc, vi cb]), (hr1, aI g 10 T), (hr2, aI g 121 Fp)] sz) (PV (S := (Int → Int) × Int × (Int → Int)) g (fun u_ => TOP (fun q => S q ∨ q = x) u_.1 u_.2.1 ∧ FAP (fun q => S q ∨ q = x) u_.2.2) (fun u_ => [(hr, oB 4 [.ref hrs, .ref hrf, .ref hr1, vi u_.2.1, .ref hr2, .ref hr3, .ref hr4, vi cc, vi cb]), (hr1, aI g 10 u_.1), (hr2, aI g 121 u_.2.2)]) [(hr, oB 4 [.ref hrs, .ref hrf, .ref hr1, vi fo, .ref hr2, .ref hr3, .ref hr4, vi cc, vi cb]), (hr1, aI g 10 T), (hr2, aI g 121 Fp)] sz) 0 0 (va_A [(hr, oB 4 [.ref hrs, .ref hrf, .ref hr1, vi fo, .ref hr2, .ref hr3, .ref hr4, vi cc, vi cb]), (hr1, aI g 10 T), (hr2, aI g 121 Fp)] sz) := by
  refine meet (own := RX5) rfl (plainFor_of_name (by decide +kernel)) rfl (fun p_ e_ s_ m_ args_ below_ meth_ c_ C hnm => ?_)
  refine r_at (ws' := [(hr, oB 4 [.ref hrs, .ref hrf, .ref hr1, vi fo, .ref hr2, .ref hr3, .ref hr4, vi cc, vi cb]), (hr1, aI g 10 T), (hr2, aI g 121 Fp)]) (lv' := [(0, .ref hr), (1, vi x), (2, vi pl)]) rfl rfl ?_
  have hfo : 0 ≤ fo ∧ fo ≤ 10 := ⟨hT.1, hT.2.1⟩
  have hTb : ∀ i : Int, 0 ≤ i → i < fo → 0 ≤ T i ∧ T i < 1073741824 := fun i a b => hR _ (hT.2.2.2.1 i a b)
  have hFb := FAP_b hR hF pl (by omega) (by omega)
  refine r_aload_n C dX5_enter_0 0 rfl ?_
  refine gf_X5_35 C dX5_enter_1 0 rfl rfl ?_
  refine r_iload_n C dX5_enter_4 2 rfl ?_
  refine r_aload_n C dX5_enter_5 0 rfl ?_
  refine gf_X5_35 C dX5_enter_6 0 rfl rfl ?_
  refine r_iload_n C dX5_enter_9 2 rfl ?_
  refine r_iald C dX5_enter_10 2 rfl rfl (by omega) ?_
  refine r_iload_n C dX5_enter_11 1 rfl ?_
  refine r_mmin C (in_r30 (List.mem_of_getElem? (i := 2) rfl)) dX5_enter_12 ⟨rfl, rfl, rfl, rfl⟩ (by omega) ?_
  refine r_iast C (ws' := [(hr, oB 4 [.ref hrs, .ref hrf, .ref hr1, vi fo, .ref hr2, .ref hr3, .ref hr4, vi cc, vi cb]), (hr1, aI g 10 T), (hr2, aI g 121 (zU Fp pl (min (Fp pl) x)))]) dX5_enter_15 2 rfl rfl (by omega) rfl ?_
  refine r_join (σ := Unit) 37 (fun z_ => (fo = 10 → x ≤ T 9)) (fun z_ => [(hr, oB 4 [.ref hrs, .ref hrf, .ref hr1, vi fo, .ref hr2, .ref hr3, .ref hr4, vi cc, vi cb]), (hr1, aI g 10 T), (hr2, aI g 121 (zU Fp pl (min (Fp pl) x)))]) (fun z_ => [(0, .ref hr), (1, vi x), (2, vi pl)]) (fun z_ => []) (fun z_ hz => ?_) (fun J_37 => ?_)
  rotate_left
  · skip
    refine r_aload_n C dX5_enter_16 0 rfl ?_
    refine gf_X5_29 C dX5_enter_17 0 rfl rfl ?_
    refine r_bipush C dX5_enter_20 rfl ?_
    refine r_icmp_ne C 37 dX5_enter_22 rfl (by omega) (fun c_1 => ?_) (fun c_1 => ?_)
    · skip
      refine r_lv (lv' := [(0, .ref hr), (1, vi x), (2, vi pl)]) [0, 1, 2] rfl ?_
      exact J_37 () (show (fo = 10 → x ≤ T 9) from (by intro z; omega))
    · skip
      refine r_iload_n C dX5_enter_25 1 rfl ?_
      refine r_aload_n C dX5_enter_26 0 rfl ?_
      refine gf_X5_25 C dX5_enter_27 0 rfl rfl ?_
      refine r_bipush C dX5_enter_30 rfl ?_
      have hT9 : 0 ≤ T 9 ∧ T 9 < 1073741824 := hTb 9 (by omega) (by omega)
      refine r_iald C dX5_enter_32 1 rfl rfl (by omega) ?_
      refine r_icmp_le C 37 dX5_enter_33 rfl (by omega) (fun c_2 => ?_) (fun c_2 => ?_)
      · skip
        refine r_lv (lv' := [(0, .ref hr), (1, vi x), (2, vi pl)]) [0, 1, 2] rfl ?_
        exact J_37 () (show (fo = 10 → x ≤ T 9) from (by intro z; omega))
      · skip
        exact e_v C (T, fo, zU Fp pl (min (Fp pl) x)) dX5_enter_36 (show TOP (fun q => S q ∨ q = x) T fo ∧ FAP (fun q => S q ∨ q = x) (zU Fp pl (min (Fp pl) x)) from ⟨by rw [show fo = 10 by omega] at hT ⊢; exact TOP_out hT (by omega), FAP_ins hx hp hR hF⟩) rfl
  have h10 := hz
  have h10 : fo = 10 → x ≤ T 9 := h10
  refine r_at3 (ws' := [(hr, oB 4 [.ref hrs, .ref hrf, .ref hr1, vi fo, .ref hr2, .ref hr3, .ref hr4, vi cc, vi cb]), (hr1, aI g 10 T), (hr2, aI g 121 (zU Fp pl (min (Fp pl) x)))]) (lv' := [(0, .ref hr), (1, vi x), (2, vi pl)]) (st' := []) rfl rfl rfl ?_
  refine r_aload_n C dX5_enter_37 0 rfl ?_
  refine gf_X5_29 C dX5_enter_38 0 rfl rfl ?_
  refine r_bipush C dX5_enter_41 rfl ?_
  refine r_mmin C (in_r30 (List.mem_of_getElem? (i := 2) rfl)) dX5_enter_43 ⟨rfl, rfl, rfl, rfl⟩ (by omega) ?_
  refine r_top (fun a0 ea0 => ?_)
  refine r_istore_n C (lv' := [(3, vi a0), (0, .ref hr), (1, vi x), (2, vi pl)]) dX5_enter_46 rfl rfl ?_
  refine r_lv (lv' := [(0, .ref hr), (1, vi x), (2, vi pl), (3, vi a0)]) [1, 2, 3, 0] rfl ?_
  refine r_loop (σ := Int × (Int → Int)) (fun z_ => (0 ≤ z_.1 ∧ z_.1 ≤ a0) ∧ (SHF T z_.2 x a0 z_.1)) (fun z_ => z_.1) (fun z_ => [(hr, oB 4 [.ref hrs, .ref hrf, .ref hr1, vi fo, .ref hr2, .ref hr3, .ref hr4, vi cc, vi cb]), (hr1, aI g 10 z_.2), (hr2, aI g 121 (zU Fp pl (min (Fp pl) x)))]) (fun z_ => [(0, .ref hr), (1, vi x), (2, vi pl), (3, vi z_.1)]) (fun z_ hz => ?_) (fun z_ hz ih_47 => ?_) (((a0, T) : Int × (Int → Int))) ?_
  · obtain ⟨j, T1⟩ := z_
    obtain ⟨hj, hs⟩ := hz
    have hj : 0 ≤ j ∧ j ≤ a0 := hj
    have hs : SHF T T1 x a0 j := hs
    show (0 : Int) ≤ j
    omega
  rotate_left
  · show (0 ≤ a0 ∧ a0 ≤ a0) ∧ (SHF T T x a0 a0)
    exact ⟨(by omega), (SHF_0 T x a0)⟩
  obtain ⟨j, T1⟩ := z_
  obtain ⟨hj, hs⟩ := hz
  have hj : 0 ≤ j ∧ j ≤ a0 := hj
  have hs : SHF T T1 x a0 j := hs
  refine r_at (ws' := [(hr, oB 4 [.ref hrs, .ref hrf, .ref hr1, vi fo, .ref hr2, .ref hr3, .ref hr4, vi cc, vi cb]), (hr1, aI g 10 T1), (hr2, aI g 121 (zU Fp pl (min (Fp pl) x)))]) (lv' := [(0, .ref hr), (1, vi x), (2, vi pl), (3, vi j)]) rfl rfl ?_
  have hjb : 0 < j → 0 ≤ T1 (j - 1) ∧ T1 (j - 1) < 1073741824 := fun z => by rw [hs.1 (j - 1) (by omega) (by omega)]; exact hTb (j - 1) (by omega) (by omega)
  refine r_iload_n C dX5_enter_47 3 rfl ?_
  refine r_if_le C 83 dX5_enter_48 rfl (by omega) (fun c_3 => ?_) (fun c_3 => ?_)
  · skip
    refine r_aload_n C dX5_enter_83 0 rfl ?_
    refine gf_X5_25 C dX5_enter_84 0 rfl rfl ?_
    refine r_iload_n C dX5_enter_87 3 rfl ?_
    refine r_iload_n C dX5_enter_88 1 rfl ?_
    refine r_iast C (ws' := [(hr, oB 4 [.ref hrs, .ref hrf, .ref hr1, vi fo, .ref hr2, .ref hr3, .ref hr4, vi cc, vi cb]), (hr1, aI g 10 (zU T1 j x)), (hr2, aI g 121 (zU Fp pl (min (Fp pl) x)))]) dX5_enter_89 1 rfl rfl (by omega) rfl ?_
    refine r_aload_n C dX5_enter_90 0 rfl ?_
    refine r_aload_n C dX5_enter_91 0 rfl ?_
    refine gf_X5_29 C dX5_enter_92 0 rfl rfl ?_
    refine r_iconst C dX5_enter_95 ?_
    refine r_iadd C dX5_enter_96 ?_
    refine r_bipush C dX5_enter_97 rfl ?_
    refine r_mmin C (in_r30 (List.mem_of_getElem? (i := 2) rfl)) dX5_enter_99 ⟨rfl, rfl, rfl, rfl⟩ (by omega) ?_
    refine pf_X5_29 C (ws' := [(hr, oB 4 [.ref hrs, .ref hrf, .ref hr1, vi (min (fo + 1) 10), .ref hr2, .ref hr3, .ref hr4, vi cc, vi cb]), (hr1, aI g 10 (zU T1 j x)), (hr2, aI g 121 (zU Fp pl (min (Fp pl) x)))]) dX5_enter_102 0 rfl (Nat.le_of_ble_eq_true rfl) rfl ?_
    exact e_v C (zU T1 j x, min (fo + 1) 10, zU Fp pl (min (Fp pl) x)) dX5_enter_105 (show TOP (fun q => S q ∨ q = x) (zU T1 j x) (min (fo + 1) 10) ∧ FAP (fun q => S q ∨ q = x) (zU Fp pl (min (Fp pl) x)) from ⟨TOP_ins hT hn ea0 h10 hj hs (by omega), FAP_ins hx hp hR hF⟩) rfl
  · skip
    refine r_aload_n C dX5_enter_51 0 rfl ?_
    refine gf_X5_25 C dX5_enter_52 0 rfl rfl ?_
    refine r_iload_n C dX5_enter_55 3 rfl ?_
    refine r_iconst C dX5_enter_56 ?_
    refine r_isub C dX5_enter_57 ?_
    refine r_iald C dX5_enter_58 1 rfl rfl (by omega) ?_
    refine r_iload_n C dX5_enter_59 1 rfl ?_
    refine r_icmp_le C 83 dX5_enter_60 rfl (by omega) (fun c_4 => ?_) (fun c_4 => ?_)
    · skip
      refine r_aload_n C dX5_enter_83 0 rfl ?_
      refine gf_X5_25 C dX5_enter_84 0 rfl rfl ?_
      refine r_iload_n C dX5_enter_87 3 rfl ?_
      refine r_iload_n C dX5_enter_88 1 rfl ?_
      refine r_iast C (ws' := [(hr, oB 4 [.ref hrs, .ref hrf, .ref hr1, vi fo, .ref hr2, .ref hr3, .ref hr4, vi cc, vi cb]), (hr1, aI g 10 (zU T1 j x)), (hr2, aI g 121 (zU Fp pl (min (Fp pl) x)))]) dX5_enter_89 1 rfl rfl (by omega) rfl ?_
      refine r_aload_n C dX5_enter_90 0 rfl ?_
      refine r_aload_n C dX5_enter_91 0 rfl ?_
      refine gf_X5_29 C dX5_enter_92 0 rfl rfl ?_
      refine r_iconst C dX5_enter_95 ?_
      refine r_iadd C dX5_enter_96 ?_
      refine r_bipush C dX5_enter_97 rfl ?_
      refine r_mmin C (in_r30 (List.mem_of_getElem? (i := 2) rfl)) dX5_enter_99 ⟨rfl, rfl, rfl, rfl⟩ (by omega) ?_
      refine pf_X5_29 C (ws' := [(hr, oB 4 [.ref hrs, .ref hrf, .ref hr1, vi (min (fo + 1) 10), .ref hr2, .ref hr3, .ref hr4, vi cc, vi cb]), (hr1, aI g 10 (zU T1 j x)), (hr2, aI g 121 (zU Fp pl (min (Fp pl) x)))]) dX5_enter_102 0 rfl (Nat.le_of_ble_eq_true rfl) rfl ?_
      exact e_v C (zU T1 j x, min (fo + 1) 10, zU Fp pl (min (Fp pl) x)) dX5_enter_105 (show TOP (fun q => S q ∨ q = x) (zU T1 j x) (min (fo + 1) 10) ∧ FAP (fun q => S q ∨ q = x) (zU Fp pl (min (Fp pl) x)) from ⟨TOP_ins hT hn ea0 h10 hj hs (by omega), FAP_ins hx hp hR hF⟩) rfl
    · skip
      refine r_aload_n C dX5_enter_63 0 rfl ?_
      refine gf_X5_25 C dX5_enter_64 0 rfl rfl ?_
      refine r_iload_n C dX5_enter_67 3 rfl ?_
      refine r_aload_n C dX5_enter_68 0 rfl ?_
      refine gf_X5_25 C dX5_enter_69 0 rfl rfl ?_
      refine r_iload_n C dX5_enter_72 3 rfl ?_
      refine r_iconst C dX5_enter_73 ?_
      refine r_isub C dX5_enter_74 ?_
      refine r_iald C dX5_enter_75 1 rfl rfl (by omega) ?_
      refine r_iast C (ws' := [(hr, oB 4 [.ref hrs, .ref hrf, .ref hr1, vi fo, .ref hr2, .ref hr3, .ref hr4, vi cc, vi cb]), (hr1, aI g 10 (zU T1 j (T1 (j - 1)))), (hr2, aI g 121 (zU Fp pl (min (Fp pl) x)))]) dX5_enter_76 1 rfl rfl (by omega) rfl ?_
      refine r_iinc C (lv' := [(3, vi (j + (-1))), (0, .ref hr), (1, vi x), (2, vi pl)]) dX5_enter_77 3 rfl rfl rfl ?_
      refine r_goto C 47 dX5_enter_80 rfl ?_
      refine r_lv (lv' := [(0, .ref hr), (1, vi x), (2, vi pl), (3, vi (j + (-1)))]) [1, 2, 3, 0] rfl ?_
      exact ih_47 (j + (-1), zU T1 j (T1 (j - 1))) (show (0 ≤ (j + (-1)) ∧ (j + (-1)) ≤ a0) ∧ (SHF T (zU T1 j (T1 (j - 1))) x a0 (j + (-1))) from ⟨(by omega), (SHF_s (by omega) (by omega) hs)⟩) (show (j + (-1)) < j from by omega)
set_option maxHeartbeats 1000000 in
set_option maxRecDepth 100000 in
theorem c_X5_firstOpen (l : Launch) (g : Gx) (hr : Nat) (hrs : Nat) (hrf : Nat) (hr1 : Nat) (hr2 : Nat) (hr3 : Nat) (hr4 : Nat) (fo : Int) (cc : Int) (cb : Int) (Fp : Int → Int) (O : Int → Int) (hFp : ∀ k : Int, 0 ≤ k → k < 121 → 0 ≤ Fp k ∧ Fp k ≤ 1073741824) (hO : ∀ k : Int, 0 ≤ k → k < 121 → O k = 0 ∨ O k = 1) (sz : Nat) : Met l yX5_firstOpen (.code yX5_firstOpen cX5_firstOpen 3 (some .int) :: wsL_law) { frames := 1, cells := 0, slots := 0, locals := 13 } (PR g [.ref hr] [(hr, oB 4 [.ref hrs, .ref hrf, .ref hr1, vi fo, .ref hr2, .ref hr3, .ref hr4, vi cc, vi cb]), (hr2, aI g 121 Fp), (hr3, aZ g 121 O)] sz) (PI (S := Unit) g (fun r u_ => FOP Fp O r ∧ 0 ≤ r ∧ r ≤ 1073741824) (fun u_ => [(hr, oB 4 [.ref hrs, .ref hrf, .ref hr1, vi fo, .ref hr2, .ref hr3, .ref hr4, vi cc, vi cb]), (hr2, aI g 121 Fp), (hr3, aZ g 121 O)]) [(hr, oB 4 [.ref hrs, .ref hrf, .ref hr1, vi fo, .ref hr2, .ref hr3, .ref hr4, vi cc, vi cb]), (hr2, aI g 121 Fp), (hr3, aZ g 121 O)] sz) 0 0 (va_A [(hr, oB 4 [.ref hrs, .ref hrf, .ref hr1, vi fo, .ref hr2, .ref hr3, .ref hr4, vi cc, vi cb]), (hr2, aI g 121 Fp), (hr3, aZ g 121 O)] sz) := by
  refine meet (own := RX5) rfl (plainFor_of_name (by decide +kernel)) rfl (fun p_ e_ s_ m_ args_ below_ meth_ c_ C hnm => ?_)
  refine r_at (ws' := [(hr, oB 4 [.ref hrs, .ref hrf, .ref hr1, vi fo, .ref hr2, .ref hr3, .ref hr4, vi cc, vi cb]), (hr2, aI g 121 Fp), (hr3, aZ g 121 O)]) (lv' := [(0, .ref hr)]) rfl rfl ?_
  refine r_ldc C (n := 1073741824) (in_r29 (List.mem_of_getElem? (i := 6) rfl)) rfl dX5_firstOpen_0 ?_
  refine r_istore_n C (lv' := [(1, vi 1073741824), (0, .ref hr)]) dX5_firstOpen_2 rfl rfl ?_
  refine r_iconst C dX5_firstOpen_3 ?_
  refine r_istore_n C (lv' := [(2, vi 0), (1, vi 1073741824), (0, .ref hr)]) dX5_firstOpen_4 rfl rfl ?_
  refine r_lv (lv' := [(0, .ref hr), (1, vi 1073741824), (2, vi 0)]) [2, 1, 0] rfl ?_
  refine r_loop (σ := Int × Int) (fun z_ => (0 ≤ z_.1 ∧ z_.1 ≤ 121) ∧ (0 ≤ z_.2 ∧ z_.2 ≤ 1073741824) ∧ (∀ q : Int, 0 ≤ q → q < z_.1 → O q = 1 → z_.2 ≤ Fp q) ∧ (z_.2 = 1073741824 ∨ ∃ q : Int, 0 ≤ q ∧ q < 121 ∧ O q = 1 ∧ Fp q = z_.2)) (fun z_ => 121 - z_.1) (fun z_ => [(hr, oB 4 [.ref hrs, .ref hrf, .ref hr1, vi fo, .ref hr2, .ref hr3, .ref hr4, vi cc, vi cb]), (hr2, aI g 121 Fp), (hr3, aZ g 121 O)]) (fun z_ => [(0, .ref hr), (1, vi z_.2), (2, vi z_.1)]) (fun z_ hz => ?_) (fun z_ hz ih_5 => ?_) (((0, 1073741824) : Int × Int)) ?_
  · obtain ⟨k, a⟩ := z_
    obtain ⟨hk, hab, h1, h2⟩ := hz
    have hk : 0 ≤ k ∧ k ≤ 121 := hk
    have hab : 0 ≤ a ∧ a ≤ 1073741824 := hab
    have h1 : ∀ q : Int, 0 ≤ q → q < k → O q = 1 → a ≤ Fp q := h1
    have h2 : a = 1073741824 ∨ ∃ q : Int, 0 ≤ q ∧ q < 121 ∧ O q = 1 ∧ Fp q = a := h2
    show (0 : Int) ≤ 121 - k
    omega
  rotate_left
  · show (0 ≤ 0 ∧ 0 ≤ 121) ∧ (0 ≤ 1073741824 ∧ 1073741824 ≤ 1073741824) ∧ (∀ q : Int, 0 ≤ q → q < 0 → O q = 1 → 1073741824 ≤ Fp q) ∧ (1073741824 = 1073741824 ∨ ∃ q : Int, 0 ≤ q ∧ q < 121 ∧ O q = 1 ∧ Fp q = 1073741824)
    exact ⟨(by decide), (by decide), (fun q a b => by omega), (Or.inl rfl)⟩
  obtain ⟨k, a⟩ := z_
  obtain ⟨hk, hab, h1, h2⟩ := hz
  have hk : 0 ≤ k ∧ k ≤ 121 := hk
  have hab : 0 ≤ a ∧ a ≤ 1073741824 := hab
  have h1 : ∀ q : Int, 0 ≤ q → q < k → O q = 1 → a ≤ Fp q := h1
  have h2 : a = 1073741824 ∨ ∃ q : Int, 0 ≤ q ∧ q < 121 ∧ O q = 1 ∧ Fp q = a := h2
  refine r_at (ws' := [(hr, oB 4 [.ref hrs, .ref hrf, .ref hr1, vi fo, .ref hr2, .ref hr3, .ref hr4, vi cc, vi cb]), (hr2, aI g 121 Fp), (hr3, aZ g 121 O)]) (lv' := [(0, .ref hr), (1, vi a), (2, vi k)]) rfl rfl ?_
  refine r_iload_n C dX5_firstOpen_5 2 rfl ?_
  refine r_aload_n C dX5_firstOpen_6 0 rfl ?_
  refine gf_X5_38 C dX5_firstOpen_7 0 rfl rfl ?_
  refine r_zlen C dX5_firstOpen_10 2 rfl ?_
  refine r_eq (y := 121) rfl ?_
  refine r_icmp_ge C 40 dX5_firstOpen_11 rfl (by omega) (fun c_1 => ?_) (fun c_1 => ?_)
  · skip
    refine r_iload_n C dX5_firstOpen_40 1 rfl ?_
    exact e_i C () dX5_firstOpen_41 (show FOP Fp O a ∧ 0 ≤ a ∧ a ≤ 1073741824 from ⟨⟨fun q q0 q1 q2 => h1 q q0 (by omega) q2, h2⟩, hab⟩) rfl
  · skip
    refine r_aload_n C dX5_firstOpen_14 0 rfl ?_
    refine gf_X5_38 C dX5_firstOpen_15 0 rfl rfl ?_
    refine r_iload_n C dX5_firstOpen_18 2 rfl ?_
    refine r_zald C dX5_firstOpen_19 2 rfl rfl (by omega) ?_
    have b_19 := hO k (by omega) (by omega)
    refine r_if_eq C 34 dX5_firstOpen_20 rfl (by omega) (fun c_2 => ?_) (fun c_2 => ?_)
    · skip
      refine r_iinc C (lv' := [(2, vi (k + 1)), (0, .ref hr), (1, vi a)]) dX5_firstOpen_34 2 rfl rfl rfl ?_
      refine r_goto C 5 dX5_firstOpen_37 rfl ?_
      refine r_lv (lv' := [(0, .ref hr), (1, vi a), (2, vi (k + 1))]) [1, 2, 0] rfl ?_
      exact ih_5 (k + 1, a) (show (0 ≤ (k + 1) ∧ (k + 1) ≤ 121) ∧ (0 ≤ a ∧ a ≤ 1073741824) ∧ (∀ q : Int, 0 ≤ q → q < (k + 1) → O q = 1 → a ≤ Fp q) ∧ (a = 1073741824 ∨ ∃ q : Int, 0 ≤ q ∧ q < 121 ∧ O q = 1 ∧ Fp q = a) from ⟨(by omega), (by omega), (fun q q0 q1 q2 => by
      by_cases e : q = k
      · subst e; omega
      · have := h1 q q0 (by omega) q2; omega), (h2)⟩) (show 121 - (k + 1) < 121 - k from by omega)
    · skip
      refine r_iload_n C dX5_firstOpen_23 1 rfl ?_
      refine r_aload_n C dX5_firstOpen_24 0 rfl ?_
      refine gf_X5_35 C dX5_firstOpen_25 0 rfl rfl ?_
      refine r_iload_n C dX5_firstOpen_28 2 rfl ?_
      refine r_iald C dX5_firstOpen_29 1 rfl rfl (by omega) ?_
      have b_29 := hFp k (by omega) (by omega)
      refine r_mmin C (in_r30 (List.mem_of_getElem? (i := 2) rfl)) dX5_firstOpen_30 ⟨rfl, rfl, rfl, rfl⟩ (by omega) ?_
      refine r_istore_n C (lv' := [(1, vi (min a (Fp k))), (0, .ref hr), (2, vi k)]) dX5_firstOpen_33 rfl rfl ?_
      refine r_iinc C (lv' := [(2, vi (k + 1)), (1, vi (min a (Fp k))), (0, .ref hr)]) dX5_firstOpen_34 2 rfl rfl rfl ?_
      refine r_goto C 5 dX5_firstOpen_37 rfl ?_
      refine r_lv (lv' := [(0, .ref hr), (1, vi (min a (Fp k))), (2, vi (k + 1))]) [2, 1, 0] rfl ?_
      exact ih_5 (k + 1, min a (Fp k)) (show (0 ≤ (k + 1) ∧ (k + 1) ≤ 121) ∧ (0 ≤ (min a (Fp k)) ∧ (min a (Fp k)) ≤ 1073741824) ∧ (∀ q : Int, 0 ≤ q → q < (k + 1) → O q = 1 → (min a (Fp k)) ≤ Fp q) ∧ ((min a (Fp k)) = 1073741824 ∨ ∃ q : Int, 0 ≤ q ∧ q < 121 ∧ O q = 1 ∧ Fp q = (min a (Fp k))) from ⟨(by omega), (by omega), (fun q q0 q1 q2 => by
      by_cases e : q = k
      · subst e; omega
      · have := h1 q q0 (by omega) q2; omega), (by
      by_cases e : a ≤ Fp k
      · rw [Int.min_eq_left e]; exact h2
      · rw [Int.min_eq_right (by omega)]; exact Or.inr ⟨k, hk.1, by omega, by omega, rfl⟩)⟩) (show 121 - (k + 1) < 121 - k from by omega)
set_option maxHeartbeats 1000000 in
set_option maxRecDepth 100000 in
theorem c_X5_closeAround (l : Launch) (g : Gx) (hr : Nat) (hrs : Nat) (hrf : Nat) (hr1 : Nat) (hr2 : Nat) (hr3 : Nat) (hr4 : Nat) (fo : Int) (cc : Int) (cb : Int) (O : Int → Int) (x : Int) (y : Int) (sp : Int) (hx : 0 ≤ x ∧ x ≤ 10 ∧ 0 ≤ y ∧ y ≤ 10) (hsp : 1 ≤ sp ∧ sp ≤ 20) (sz : Nat) : Met l yX5_closeAround (.code yX5_closeAround cX5_closeAround 7 none :: wsL_law) { frames := 1, cells := 0, slots := 0, locals := 13 } (PR g [.ref hr, vi x, vi y, vi sp] [(hr, oB 4 [.ref hrs, .ref hrf, .ref hr1, vi fo, .ref hr2, .ref hr3, .ref hr4, vi cc, vi cb]), (hr3, aZ g 121 O)] sz) (PV (S := (Int → Int)) g (fun u_ => ∀ k : Int, 0 ≤ k → k < 121 → u_ k = if ab (k % 11 - x) + ab (k / 11 - y) < sp then 0 else O k) (fun u_ => [(hr, oB 4 [.ref hrs, .ref hrf, .ref hr1, vi fo, .ref hr2, .ref hr3, .ref hr4, vi cc, vi cb]), (hr3, aZ g 121 u_)]) [(hr, oB 4 [.ref hrs, .ref hrf, .ref hr1, vi fo, .ref hr2, .ref hr3, .ref hr4, vi cc, vi cb]), (hr3, aZ g 121 O)] sz) 0 0 (va_A [(hr, oB 4 [.ref hrs, .ref hrf, .ref hr1, vi fo, .ref hr2, .ref hr3, .ref hr4, vi cc, vi cb]), (hr3, aZ g 121 O)] sz) := by
  refine meet (own := RX5) rfl (plainFor_of_name (by decide +kernel)) rfl (fun p_ e_ s_ m_ args_ below_ meth_ c_ C hnm => ?_)
  refine r_at (ws' := [(hr, oB 4 [.ref hrs, .ref hrf, .ref hr1, vi fo, .ref hr2, .ref hr3, .ref hr4, vi cc, vi cb]), (hr3, aZ g 121 O)]) (lv' := [(0, .ref hr), (1, vi x), (2, vi y), (3, vi sp)]) rfl rfl ?_
  refine r_iconst C dX5_closeAround_0 ?_
  refine r_istore C (lv' := [(4, vi 0), (0, .ref hr), (1, vi x), (2, vi y), (3, vi sp)]) dX5_closeAround_1 rfl rfl ?_
  refine r_lv (lv' := [(0, .ref hr), (1, vi x), (2, vi y), (3, vi sp), (4, vi 0)]) [1, 2, 3, 4, 0] rfl ?_
  refine r_loop (σ := Int × (Int → Int)) (fun z_ => (0 ≤ z_.1 ∧ z_.1 ≤ 121) ∧ (∀ k : Int, 0 ≤ k → k < z_.1 → z_.2 k = if ab (k % 11 - x) + ab (k / 11 - y) < sp then 0 else O k) ∧ (∀ k : Int, z_.1 ≤ k → z_.2 k = O k)) (fun z_ => 121 - z_.1) (fun z_ => [(hr, oB 4 [.ref hrs, .ref hrf, .ref hr1, vi fo, .ref hr2, .ref hr3, .ref hr4, vi cc, vi cb]), (hr3, aZ g 121 z_.2)]) (fun z_ => [(0, .ref hr), (1, vi x), (2, vi y), (3, vi sp), (4, vi z_.1)]) (fun z_ hz => ?_) (fun z_ hz ih_3 => ?_) (((0, O) : Int × (Int → Int))) ?_
  · obtain ⟨i, P⟩ := z_
    obtain ⟨hi, h1, h2⟩ := hz
    have hi : 0 ≤ i ∧ i ≤ 121 := hi
    have h1 : ∀ k : Int, 0 ≤ k → k < i → P k = if ab (k % 11 - x) + ab (k / 11 - y) < sp then 0 else O k := h1
    have h2 : ∀ k : Int, i ≤ k → P k = O k := h2
    show (0 : Int) ≤ 121 - i
    omega
  rotate_left
  · show (0 ≤ 0 ∧ 0 ≤ 121) ∧ (∀ k : Int, 0 ≤ k → k < 0 → O k = if ab (k % 11 - x) + ab (k / 11 - y) < sp then 0 else O k) ∧ (∀ k : Int, 0 ≤ k → O k = O k)
    exact ⟨(by decide), (fun k a b => by omega), (fun k a => rfl)⟩
  obtain ⟨i, P⟩ := z_
  obtain ⟨hi, h1, h2⟩ := hz
  have hi : 0 ≤ i ∧ i ≤ 121 := hi
  have h1 : ∀ k : Int, 0 ≤ k → k < i → P k = if ab (k % 11 - x) + ab (k / 11 - y) < sp then 0 else O k := h1
  have h2 : ∀ k : Int, i ≤ k → P k = O k := h2
  refine r_at (ws' := [(hr, oB 4 [.ref hrs, .ref hrf, .ref hr1, vi fo, .ref hr2, .ref hr3, .ref hr4, vi cc, vi cb]), (hr3, aZ g 121 P)]) (lv' := [(0, .ref hr), (1, vi x), (2, vi y), (3, vi sp), (4, vi i)]) rfl rfl ?_
  refine r_iload C dX5_closeAround_3 4 rfl ?_
  refine r_aload_n C dX5_closeAround_5 0 rfl ?_
  refine gf_X5_38 C dX5_closeAround_6 0 rfl rfl ?_
  refine r_zlen C dX5_closeAround_9 1 rfl ?_
  refine r_eq (y := 121) rfl ?_
  refine r_icmp_ge C 60 dX5_closeAround_10 rfl (by omega) (fun c_1 => ?_) (fun c_1 => ?_)
  · skip
    exact e_v C P dX5_closeAround_60 (show ∀ k : Int, 0 ≤ k → k < 121 → P k = if ab (k % 11 - x) + ab (k / 11 - y) < sp then 0 else O k from fun k a b => h1 k a (by omega)) rfl
  · skip
    refine r_iload C dX5_closeAround_13 4 rfl ?_
    refine r_bipush C dX5_closeAround_15 rfl ?_
    refine r_irem C dX5_closeAround_17 (by omega) ?_
    refine r_iload_n C dX5_closeAround_18 1 rfl ?_
    refine r_isub C dX5_closeAround_19 ?_
    refine r_mabs C (in_r32 (List.mem_of_getElem? (i := 9) rfl)) dX5_closeAround_20 ⟨rfl, rfl, rfl, rfl⟩ (by omega) ?_
    refine r_top (fun u eu => ?_)
    refine r_istore C (lv' := [(5, vi u), (0, .ref hr), (1, vi x), (2, vi y), (3, vi sp), (4, vi i)]) dX5_closeAround_23 rfl rfl ?_
    refine r_iload C dX5_closeAround_25 5 rfl ?_
    refine r_bipush C dX5_closeAround_27 rfl ?_
    refine r_idiv C dX5_closeAround_29 (by omega) ?_
    refine r_iload_n C dX5_closeAround_30 3 rfl ?_
    refine r_isub C dX5_closeAround_31 ?_
    refine r_mabs C (in_r32 (List.mem_of_getElem? (i := 9) rfl)) dX5_closeAround_32 ⟨rfl, rfl, rfl, rfl⟩ (by omega) ?_
    refine r_top (fun v ev => ?_)
    have hab : ab (i % 11 - x) + ab (i / 11 - y) = u + v := by rw [eu, ev]; rfl
    refine r_istore C (lv' := [(6, vi v), (5, vi u), (0, .ref hr), (1, vi x), (2, vi y), (3, vi sp), (4, vi i)]) dX5_closeAround_35 rfl rfl ?_
    refine r_iload C dX5_closeAround_37 1 rfl ?_
    refine r_iload C dX5_closeAround_39 0 rfl ?_
    refine r_iadd C dX5_closeAround_41 ?_
    refine r_iload_n C dX5_closeAround_42 5 rfl ?_
    refine r_icmp_ge C 54 dX5_closeAround_43 rfl (by omega) (fun c_2 => ?_) (fun c_2 => ?_)
    · skip
      refine r_iinc C (lv' := [(4, vi (i + 1)), (6, vi v), (5, vi u), (0, .ref hr), (1, vi x), (2, vi y), (3, vi sp)]) dX5_closeAround_54 6 rfl rfl rfl ?_
      refine r_goto C 3 dX5_closeAround_57 rfl ?_
      refine r_lv (lv' := [(0, .ref hr), (1, vi x), (2, vi y), (3, vi sp), (4, vi (i + 1))]) [3, 4, 5, 6, 0] rfl ?_
      exact ih_3 (i + 1, P) (show (0 ≤ (i + 1) ∧ (i + 1) ≤ 121) ∧ (∀ k : Int, 0 ≤ k → k < (i + 1) → P k = if ab (k % 11 - x) + ab (k / 11 - y) < sp then 0 else O k) ∧ (∀ k : Int, (i + 1) ≤ k → P k = O k) from ⟨(by omega), (fun k a b => by
      by_cases e : k = i
      · subst e; rw [if_neg (by rw [hab]; omega)]; exact h2 k (by omega)
      · exact h1 k a (by omega)), (fun k a => h2 k (by omega))⟩) (show 121 - (i + 1) < 121 - i from by omega)
    · skip
      refine r_aload_n C dX5_closeAround_46 2 rfl ?_
      refine gf_X5_38 C dX5_closeAround_47 0 rfl rfl ?_
      refine r_iload C dX5_closeAround_50 6 rfl ?_
      refine r_iconst C dX5_closeAround_52 ?_
      refine r_zast C (ws' := [(hr, oB 4 [.ref hrs, .ref hrf, .ref hr1, vi fo, .ref hr2, .ref hr3, .ref hr4, vi cc, vi cb]), (hr3, aZ g 121 (zU P i 0))]) dX5_closeAround_53 1 rfl rfl (by omega) (nar_z (by omega)) rfl ?_
      refine r_iinc C (lv' := [(4, vi (i + 1)), (6, vi v), (5, vi u), (0, .ref hr), (1, vi x), (2, vi y), (3, vi sp)]) dX5_closeAround_54 6 rfl rfl rfl ?_
      refine r_goto C 3 dX5_closeAround_57 rfl ?_
      refine r_lv (lv' := [(0, .ref hr), (1, vi x), (2, vi y), (3, vi sp), (4, vi (i + 1))]) [3, 4, 5, 6, 0] rfl ?_
      exact ih_3 (i + 1, zU P i 0) (show (0 ≤ (i + 1) ∧ (i + 1) ≤ 121) ∧ (∀ k : Int, 0 ≤ k → k < (i + 1) → (zU P i 0) k = if ab (k % 11 - x) + ab (k / 11 - y) < sp then 0 else O k) ∧ (∀ k : Int, (i + 1) ≤ k → (zU P i 0) k = O k) from ⟨(by omega), (zU_all h1 (by rw [if_pos (by rw [hab]; omega)])), (fun k a => by rw [zU_ne _ _ (by omega)]; exact h2 k (by omega))⟩) (show 121 - (i + 1) < 121 - i from by omega)
set_option maxHeartbeats 1000000 in
set_option maxRecDepth 100000 in
theorem c_X5_chooseApart (l : Launch) (g : Gx) (hr : Nat) (hrs : Nat) (hrf : Nat) (hr1 : Nat) (hr2 : Nat) (hr3 : Nat) (hr4 : Nat) (fo : Int) (cc : Int) (cb : Int) (Fp : Int → Int) (O : Int → Int) (Ch : Int → Int) (S : Int → Prop) (sp : Int) (hsp : 1 ≤ sp ∧ sp ≤ 20) (hcb : 0 ≤ cb ∧ cb ≤ 20) (hF : FAP S Fp) (hR : RNG S) (hc : cb = sp → SPR S sp Ch cc) (sz : Nat) : Met l yX5_chooseApart (.code yX5_chooseApart cX5_chooseApart 4 none :: wsL_law) { frames := 2, cells := 0, slots := 0, locals := 44 } (PR g [.ref hr, vi sp] [(hr, oB 4 [.ref hrs, .ref hrf, .ref hr1, vi fo, .ref hr2, .ref hr3, .ref hr4, vi cc, vi cb]), (hr2, aI g 121 Fp), (hr3, aZ g 121 O), (hr4, aI g 10 Ch)] sz) (PV (S := (Int → Int) × (Int → Int) × Int) g (fun u_ => SPR S sp u_.2.1 u_.2.2) (fun u_ => [(hr, oB 4 [.ref hrs, .ref hrf, .ref hr1, vi fo, .ref hr2, .ref hr3, .ref hr4, vi u_.2.2, vi sp]), (hr2, aI g 121 Fp), (hr3, aZ g 121 u_.1), (hr4, aI g 10 u_.2.1)]) [(hr, oB 4 [.ref hrs, .ref hrf, .ref hr1, vi fo, .ref hr2, .ref hr3, .ref hr4, vi cc, vi cb]), (hr2, aI g 121 Fp), (hr3, aZ g 121 O), (hr4, aI g 10 Ch)] sz) 0 0 (va_A [(hr, oB 4 [.ref hrs, .ref hrf, .ref hr1, vi fo, .ref hr2, .ref hr3, .ref hr4, vi cc, vi cb]), (hr2, aI g 121 Fp), (hr3, aZ g 121 O), (hr4, aI g 10 Ch)] sz) := by
  refine meet (own := RX5) rfl (plainFor_of_name (by decide +kernel)) rfl (fun p_ e_ s_ m_ args_ below_ meth_ c_ C hnm => ?_)
  refine r_at (ws' := [(hr, oB 4 [.ref hrs, .ref hrf, .ref hr1, vi fo, .ref hr2, .ref hr3, .ref hr4, vi cc, vi cb]), (hr2, aI g 121 Fp), (hr3, aZ g 121 O), (hr4, aI g 10 Ch)]) (lv' := [(0, .ref hr), (1, vi sp)]) rfl rfl ?_
  have hFb := FAP_b hR hF
  refine r_aload_n C dX5_chooseApart_0 0 rfl ?_
  refine gf_X5_48 C dX5_chooseApart_1 0 rfl rfl ?_
  refine r_iload_n C dX5_chooseApart_4 1 rfl ?_
  refine r_icmp_ne C 9 dX5_chooseApart_5 rfl (by omega) (fun c_1 => ?_) (fun c_1 => ?_)
  · skip
    refine r_aload_n C dX5_chooseApart_9 0 rfl ?_
    refine r_iload_n C dX5_chooseApart_10 1 rfl ?_
    refine pf_X5_48 C (ws' := [(hr, oB 4 [.ref hrs, .ref hrf, .ref hr1, vi fo, .ref hr2, .ref hr3, .ref hr4, vi cc, vi sp]), (hr2, aI g 121 Fp), (hr3, aZ g 121 O), (hr4, aI g 10 Ch)]) dX5_chooseApart_11 0 rfl (Nat.le_of_ble_eq_true rfl) rfl ?_
    refine r_aload_n C dX5_chooseApart_14 0 rfl ?_
    refine r_iconst C dX5_chooseApart_15 ?_
    refine pf_X5_45 C (ws' := [(hr, oB 4 [.ref hrs, .ref hrf, .ref hr1, vi fo, .ref hr2, .ref hr3, .ref hr4, vi 0, vi sp]), (hr2, aI g 121 Fp), (hr3, aZ g 121 O), (hr4, aI g 10 Ch)]) dX5_chooseApart_16 0 rfl (Nat.le_of_ble_eq_true rfl) rfl ?_
    refine r_iconst C dX5_chooseApart_19 ?_
    refine r_istore_n C (lv' := [(2, vi 0), (0, .ref hr), (1, vi sp)]) dX5_chooseApart_20 rfl rfl ?_
    refine r_lv (lv' := [(0, .ref hr), (1, vi sp), (2, vi 0)]) [1, 2, 0] rfl ?_
    refine r_loop (σ := Int × (Int → Int)) (fun z_ => (0 ≤ z_.1 ∧ z_.1 ≤ 121) ∧ (∀ q : Int, 0 ≤ q → q < z_.1 → z_.2 q = 1)) (fun z_ => 121 - z_.1) (fun z_ => [(hr, oB 4 [.ref hrs, .ref hrf, .ref hr1, vi fo, .ref hr2, .ref hr3, .ref hr4, vi 0, vi sp]), (hr2, aI g 121 Fp), (hr3, aZ g 121 z_.2), (hr4, aI g 10 Ch)]) (fun z_ => [(0, .ref hr), (1, vi sp), (2, vi z_.1)]) (fun z_ hz => ?_) (fun z_ hz ih_21 => ?_) (((0, O) : Int × (Int → Int))) ?_
    · obtain ⟨k, O1⟩ := z_
      obtain ⟨hk, hO1⟩ := hz
      have hk : 0 ≤ k ∧ k ≤ 121 := hk
      have hO1 : ∀ q : Int, 0 ≤ q → q < k → O1 q = 1 := hO1
      show (0 : Int) ≤ 121 - k
      omega
    rotate_left
    · show (0 ≤ 0 ∧ 0 ≤ 121) ∧ (∀ q : Int, 0 ≤ q → q < 0 → O q = 1)
      exact ⟨(by decide), (fun q a b => by omega)⟩
    obtain ⟨k, O1⟩ := z_
    obtain ⟨hk, hO1⟩ := hz
    have hk : 0 ≤ k ∧ k ≤ 121 := hk
    have hO1 : ∀ q : Int, 0 ≤ q → q < k → O1 q = 1 := hO1
    refine r_at (ws' := [(hr, oB 4 [.ref hrs, .ref hrf, .ref hr1, vi fo, .ref hr2, .ref hr3, .ref hr4, vi 0, vi sp]), (hr2, aI g 121 Fp), (hr3, aZ g 121 O1), (hr4, aI g 10 Ch)]) (lv' := [(0, .ref hr), (1, vi sp), (2, vi k)]) rfl rfl ?_
    refine r_iload_n C dX5_chooseApart_21 2 rfl ?_
    refine r_aload_n C dX5_chooseApart_22 0 rfl ?_
    refine gf_X5_38 C dX5_chooseApart_23 0 rfl rfl ?_
    refine r_zlen C dX5_chooseApart_26 2 rfl ?_
    refine r_eq (y := 121) rfl ?_
    refine r_icmp_ge C 43 dX5_chooseApart_27 rfl (by omega) (fun c_2 => ?_) (fun c_2 => ?_)
    · skip
      refine r_iconst C dX5_chooseApart_43 ?_
      refine r_istore_n C (lv' := [(2, vi 0), (0, .ref hr), (1, vi sp)]) dX5_chooseApart_44 rfl rfl ?_
      refine r_lv (lv' := [(0, .ref hr), (1, vi sp), (2, vi 0)]) [1, 2, 0] rfl ?_
      refine r_loop (σ := Int × (Int → Int) × (Int → Int) × Int) (fun z_ => (0 ≤ z_.1 ∧ z_.1 ≤ 10 ∧ z_.2.2.2 = z_.1) ∧ (OPN sp z_.2.2.1 z_.1 z_.2.1) ∧ (SPP S sp z_.2.2.1 z_.1)) (fun z_ => 10 - z_.1) (fun z_ => [(hr, oB 4 [.ref hrs, .ref hrf, .ref hr1, vi fo, .ref hr2, .ref hr3, .ref hr4, vi z_.2.2.2, vi sp]), (hr2, aI g 121 Fp), (hr3, aZ g 121 z_.2.1), (hr4, aI g 10 z_.2.2.1)]) (fun z_ => [(0, .ref hr), (1, vi sp), (2, vi z_.1)]) (fun z_ hz => ?_) (fun z_ hz ih_45 => ?_) (((0, O1, Ch, 0) : Int × (Int → Int) × (Int → Int) × Int)) ?_
      · obtain ⟨i, O3, C3, m3⟩ := z_
        obtain ⟨hi, hO, hS⟩ := hz
        have hi : 0 ≤ i ∧ i ≤ 10 ∧ m3 = i := hi
        have hO : OPN sp C3 i O3 := hO
        have hS : SPP S sp C3 i := hS
        show (0 : Int) ≤ 10 - i
        omega
      rotate_left
      · show (0 ≤ 0 ∧ 0 ≤ 10 ∧ 0 = 0) ∧ (OPN sp Ch 0 O1) ∧ (SPP S sp Ch 0)
        exact ⟨(by decide), (OPN_0 (fun q a b => hO1 q a (by omega))), (fun t a b => by omega)⟩
      obtain ⟨i, O3, C3, m3⟩ := z_
      obtain ⟨hi, hO, hS⟩ := hz
      have hi : 0 ≤ i ∧ i ≤ 10 ∧ m3 = i := hi
      have hO : OPN sp C3 i O3 := hO
      have hS : SPP S sp C3 i := hS
      refine r_at (ws' := [(hr, oB 4 [.ref hrs, .ref hrf, .ref hr1, vi fo, .ref hr2, .ref hr3, .ref hr4, vi m3, vi sp]), (hr2, aI g 121 Fp), (hr3, aZ g 121 O3), (hr4, aI g 10 C3)]) (lv' := [(0, .ref hr), (1, vi sp), (2, vi i)]) rfl rfl ?_
      refine r_iload_n C dX5_chooseApart_45 2 rfl ?_
      refine r_bipush C dX5_chooseApart_46 rfl ?_
      refine r_icmp_ge C 101 dX5_chooseApart_48 rfl (by omega) (fun c_3 => ?_) (fun c_3 => ?_)
      · skip
        exact e_v C (O3, C3, m3) dX5_chooseApart_101 (show SPR S sp C3 m3 from ⟨by omega, by omega, by rw [hi.2.2]; exact hS, Or.inl (by omega)⟩) rfl
      · skip
        refine r_aload_n C dX5_chooseApart_51 0 rfl ?_
        refine k_Vi C kv_X5_92 (fun sz => c_X5_firstOpen l g hr hrs hrf hr1 hr2 hr3 hr4 fo m3 sp Fp O3 hFb (fun k a b => by rcases hO k a b with z | z <;> omega) sz) dX5_chooseApart_52 rfl rfl rfl ⟨rfl, rfl⟩ 0 4 rfl rfl rfl [0, 1, 2] rfl rfl (fun _ => rfl) (ws' := fun u_ => [(hr, oB 4 [.ref hrs, .ref hrf, .ref hr1, vi fo, .ref hr2, .ref hr3, .ref hr4, vi m3, vi sp]), (hr2, aI g 121 Fp), (hr3, aZ g 121 O3), (hr4, aI g 10 C3)]) (fun _ => rfl) (fun r_52 u_ p_52 => ?_)
        have p_52 : FOP Fp O3 r_52 ∧ 0 ≤ r_52 ∧ r_52 ≤ 1073741824 := p_52
        refine r_istore_n C (lv' := [(3, vi r_52), (0, .ref hr), (1, vi sp), (2, vi i)]) dX5_chooseApart_55 rfl rfl ?_
        refine r_iload_n C dX5_chooseApart_56 0 rfl ?_
        refine r_ldc C (n := 1073741824) (in_r29 (List.mem_of_getElem? (i := 6) rfl)) rfl dX5_chooseApart_57 ?_
        refine r_icmp_ne C 63 dX5_chooseApart_59 rfl (by omega) (fun c_4 => ?_) (fun c_4 => ?_)
        · skip
          refine r_aload_n C dX5_chooseApart_63 1 rfl ?_
          refine gf_X5_42 C dX5_chooseApart_64 0 rfl rfl ?_
          refine r_iload_n C dX5_chooseApart_67 3 rfl ?_
          refine r_iload_n C dX5_chooseApart_68 0 rfl ?_
          refine r_iast C (ws' := [(hr, oB 4 [.ref hrs, .ref hrf, .ref hr1, vi fo, .ref hr2, .ref hr3, .ref hr4, vi m3, vi sp]), (hr2, aI g 121 Fp), (hr3, aZ g 121 O3), (hr4, aI g 10 (zU C3 i r_52))]) dX5_chooseApart_69 3 rfl rfl (by omega) rfl ?_
          refine r_aload_n C dX5_chooseApart_70 1 rfl ?_
          refine r_dup C dX5_chooseApart_71 rfl ?_
          refine gf_X5_45 C dX5_chooseApart_72 0 rfl rfl ?_
          refine r_iconst C dX5_chooseApart_75 ?_
          refine r_iadd C dX5_chooseApart_76 ?_
          refine pf_X5_45 C (ws' := [(hr, oB 4 [.ref hrs, .ref hrf, .ref hr1, vi fo, .ref hr2, .ref hr3, .ref hr4, vi (m3 + 1), vi sp]), (hr2, aI g 121 Fp), (hr3, aZ g 121 O3), (hr4, aI g 10 (zU C3 i r_52))]) dX5_chooseApart_77 0 rfl (Nat.le_of_ble_eq_true rfl) rfl ?_
          refine r_aload_n C dX5_chooseApart_80 1 rfl ?_
          refine r_iload_n C dX5_chooseApart_81 0 rfl ?_
          refine r_iconst C dX5_chooseApart_82 ?_
          refine k_Si C ks_X5_96 (fun sz => c_X4_part l g r_52 0 (by omega) (by omega) sz) dX5_chooseApart_83 rfl rfl rfl ⟨rfl, rfl⟩ [] rfl rfl (fun _ => rfl) (ws' := fun u_ => [(hr, oB 4 [.ref hrs, .ref hrf, .ref hr1, vi fo, .ref hr2, .ref hr3, .ref hr4, vi (m3 + 1), vi sp]), (hr2, aI g 121 Fp), (hr3, aZ g 121 O3), (hr4, aI g 10 (zU C3 i r_52))]) (fun _ => rfl) (fun r_83 u_ p_83 => ?_)
          have p_83 : r_83 = prt r_52 0 := p_83
          refine r_eq (y := (prt r_52 0)) p_83 ?_
          refine r_iload_n C dX5_chooseApart_86 0 rfl ?_
          refine r_iconst C dX5_chooseApart_87 ?_
          refine k_Si C ks_X5_96 (fun sz => c_X4_part l g r_52 1 (by omega) (by omega) sz) dX5_chooseApart_88 rfl rfl rfl ⟨rfl, rfl⟩ [] rfl rfl (fun _ => rfl) (ws' := fun u_ => [(hr, oB 4 [.ref hrs, .ref hrf, .ref hr1, vi fo, .ref hr2, .ref hr3, .ref hr4, vi (m3 + 1), vi sp]), (hr2, aI g 121 Fp), (hr3, aZ g 121 O3), (hr4, aI g 10 (zU C3 i r_52))]) (fun _ => rfl) (fun r_88 u_ p_88 => ?_)
          have p_88 : r_88 = prt r_52 1 := p_88
          refine r_eq (y := (prt r_52 1)) p_88 ?_
          refine r_iload_n C dX5_chooseApart_91 2 rfl ?_
          refine k_Vv C kv_X5_99 (fun sz => c_X5_closeAround l g hr hrs hrf hr1 hr2 hr3 hr4 fo (m3 + 1) sp O3 (prt r_52 0) (prt r_52 1) sp (by unfold prt; omega) (by omega) sz) dX5_chooseApart_92 rfl rfl rfl ⟨rfl, rfl⟩ 0 4 rfl rfl rfl [0, 2] rfl rfl (fun _ => rfl) (ws' := fun u_ => [(hr, oB 4 [.ref hrs, .ref hrf, .ref hr1, vi fo, .ref hr2, .ref hr3, .ref hr4, vi (m3 + 1), vi sp]), (hr2, aI g 121 Fp), (hr3, aZ g 121 u_), (hr4, aI g 10 (zU C3 i r_52))]) (fun _ => rfl) (fun u_ p_92 => ?_)
          obtain ⟨O2_92, rfl⟩ : ∃ w_, w_ = u_ := ⟨_, rfl⟩
          refine r_at (ws' := [(hr, oB 4 [.ref hrs, .ref hrf, .ref hr1, vi fo, .ref hr2, .ref hr3, .ref hr4, vi (m3 + 1), vi sp]), (hr2, aI g 121 Fp), (hr3, aZ g 121 O2_92), (hr4, aI g 10 (zU C3 i r_52))]) (lv' := [(3, vi r_52), (0, .ref hr), (1, vi sp), (2, vi i)]) rfl rfl ?_
          have p_92 : ∀ k : Int, 0 ≤ k → k < 121 → O2_92 k = if ab (k % 11 - (prt r_52 0)) + ab (k / 11 - (prt r_52 1)) < sp then 0 else O3 k := p_92
          refine r_iinc C (lv' := [(2, vi (i + 1)), (3, vi r_52), (0, .ref hr), (1, vi sp)]) dX5_chooseApart_95 3 rfl rfl rfl ?_
          refine r_goto C 45 dX5_chooseApart_98 rfl ?_
          refine r_lv (lv' := [(0, .ref hr), (1, vi sp), (2, vi (i + 1))]) [2, 3, 0] rfl ?_
          exact ih_45 (i + 1, O2_92, zU C3 i r_52, m3 + 1) (show (0 ≤ (i + 1) ∧ (i + 1) ≤ 10 ∧ (m3 + 1) = (i + 1)) ∧ (OPN sp (zU C3 i r_52) (i + 1) O2_92) ∧ (SPP S sp (zU C3 i r_52) (i + 1)) from ⟨(by omega), (OPN_s hi.1 hO (fun k a b => by have := p_92 k a b; unfold prt at this; exact this)), (SPP_s hi.1 hR hF hO p_52.1 (by omega) hS)⟩) (show 10 - (i + 1) < 10 - i from by omega)
        · skip
          exact e_v C (O3, C3, m3) dX5_chooseApart_62 (show SPR S sp C3 m3 from by rw [hi.2.2]; exact SPP_end (by omega) hR hF hO (by have := p_52.1; rw [show r_52 = 1073741824 by omega] at this; exact this) hS) rfl
    · skip
      refine r_aload_n C dX5_chooseApart_30 0 rfl ?_
      refine gf_X5_38 C dX5_chooseApart_31 0 rfl rfl ?_
      refine r_iload_n C dX5_chooseApart_34 2 rfl ?_
      refine r_iconst C dX5_chooseApart_35 ?_
      refine r_zast C (ws' := [(hr, oB 4 [.ref hrs, .ref hrf, .ref hr1, vi fo, .ref hr2, .ref hr3, .ref hr4, vi 0, vi sp]), (hr2, aI g 121 Fp), (hr3, aZ g 121 (zU O1 k 1)), (hr4, aI g 10 Ch)]) dX5_chooseApart_36 2 rfl rfl (by omega) (nar_z (by omega)) rfl ?_
      refine r_iinc C (lv' := [(2, vi (k + 1)), (0, .ref hr), (1, vi sp)]) dX5_chooseApart_37 2 rfl rfl rfl ?_
      refine r_goto C 21 dX5_chooseApart_40 rfl ?_
      refine r_lv (lv' := [(0, .ref hr), (1, vi sp), (2, vi (k + 1))]) [1, 2, 0] rfl ?_
      exact ih_21 (k + 1, zU O1 k 1) (show (0 ≤ (k + 1) ∧ (k + 1) ≤ 121) ∧ (∀ q : Int, 0 ≤ q → q < (k + 1) → (zU O1 k 1) q = 1) from ⟨(by omega), (zU_all (G := fun _ => 1) hO1 rfl)⟩) (show 121 - (k + 1) < 121 - k from by omega)
  · skip
    refine r_ws (ws' := [(hr, oB 4 [.ref hrs, .ref hrf, .ref hr1, vi fo, .ref hr2, .ref hr3, .ref hr4, vi cc, vi sp]), (hr2, aI g 121 Fp), (hr3, aZ g 121 O), (hr4, aI g 10 Ch)]) (by rw [show cb = sp by omega]) ?_
    exact e_v C (O, Ch, cc) dX5_chooseApart_8 (show SPR S sp Ch cc from hc (by omega)) rfl
set_option maxHeartbeats 1000000 in
set_option maxRecDepth 100000 in
theorem c_X5_seek (l : Launch) (g : Gx) (hr : Nat) (hrs : Nat) (hrf : Nat) (hr1 : Nat) (hr2 : Nat) (hr3 : Nat) (hr4 : Nat) (fo : Int) (cc : Int) (cb : Int) (hrsx : Nat) (hrsy : Nat) (P : Int → Int) (Q : Int → Int) (ns : Int) (lf : Int) (rt : Int) (tp : Int) (bt : Int) (il : Int) (wo : Int) (wd : Int) (oe : Int) (T : Int → Int) (Fp : Int → Int) (h0 : Nat) (h0r : Nat) (h0x : Nat) (h0y : Nat) (w : Int) (h : Int) (n : Int) (m : Int) (c : Int) (X : Int → Int) (Y : Int → Int) (hd : Nat) (hdf : Nat) (D : Int → Int) (hw : 4 ≤ w ∧ w ≤ 11) (hh : 4 ≤ h ∧ h ≤ 11) (hn : 1 ≤ n ∧ n ≤ 10) (hX : ∀ k : Int, 0 ≤ k → k < n → -5 ≤ X k ∧ X k ≤ 5) (hY : ∀ k : Int, 0 ≤ k → k < n → -5 ≤ Y k ∧ Y k ≤ 5) (hD : ∀ k : Int, 0 ≤ k → k < 169 → 0 ≤ D k ∧ D k ≤ 99) (sz : Nat) : Met l yX5_seek (.code yX5_seek cX5_seek 7 none :: wsL_law) { frames := 3, cells := 0, slots := 0, locals := 64 } (PR g [.ref hr, .ref h0, .ref hd] [(hr, oB 4 [.ref hrs, .ref hrf, .ref hr1, vi fo, .ref hr2, .ref hr3, .ref hr4, vi cc, vi cb]), (hrs, oB 8 [.ref hrsx, .ref hrsy, vi ns, vi lf, vi rt, vi tp, vi bt]), (hrsx, aI g 10 P), (hrsy, aI g 10 Q), (hrf, oB 2 [vi il, vi wo, vi wd, vi oe]), (hr1, aI g 10 T), (hr2, aI g 121 Fp), (h0, oB 6 [vi w, vi h, .ref h0r, .ref h0x, .ref h0y, vi n, vi m, vi c]), (h0x, aI g 10 X), (h0y, aI g 10 Y), (hd, oB 1 [.ref hdf, vi w, vi h]), (hdf, aI g 169 D)] sz) (PV (S := (Int → Int) × (Int → Int) × Int × Int × Int × Int × Int × Int × Int × Int × Int × Int × (Int → Int) × (Int → Int)) g (fun u_ => TOP (RS w h (fun a b => D (ix a b)) X Y n) u_.2.2.2.2.2.2.2.2.2.2.2.2.1 u_.2.2.2.2.2.2.2.2.2.2.2.1 ∧ FAP (RS w h (fun a b => D (ix a b)) X Y n) u_.2.2.2.2.2.2.2.2.2.2.2.2.2) (fun u_ => [(hr, oB 4 [.ref hrs, .ref hrf, .ref hr1, vi u_.2.2.2.2.2.2.2.2.2.2.2.1, .ref hr2, .ref hr3, .ref hr4, vi cc, vi 0]), (hrs, oB 8 [.ref hrsx, .ref hrsy, vi u_.2.2.1, vi u_.2.2.2.1, vi u_.2.2.2.2.1, vi u_.2.2.2.2.2.1, vi u_.2.2.2.2.2.2.1]), (hrsx, aI g 10 u_.1), (hrsy, aI g 10 u_.2.1), (hrf, oB 2 [vi u_.2.2.2.2.2.2.2.1, vi u_.2.2.2.2.2.2.2.2.1, vi u_.2.2.2.2.2.2.2.2.2.1, vi u_.2.2.2.2.2.2.2.2.2.2.1]), (hr1, aI g 10 u_.2.2.2.2.2.2.2.2.2.2.2.2.1), (hr2, aI g 121 u_.2.2.2.2.2.2.2.2.2.2.2.2.2), (h0, oB 6 [vi w, vi h, .ref h0r, .ref h0x, .ref h0y, vi n, vi m, vi c]), (h0x, aI g 10 X), (h0y, aI g 10 Y), (hd, oB 1 [.ref hdf, vi w, vi h]), (hdf, aI g 169 D)]) [(hr, oB 4 [.ref hrs, .ref hrf, .ref hr1, vi fo, .ref hr2, .ref hr3, .ref hr4, vi cc, vi cb]), (hrs, oB 8 [.ref hrsx, .ref hrsy, vi ns, vi lf, vi rt, vi tp, vi bt]), (hrsx, aI g 10 P), (hrsy, aI g 10 Q), (hrf, oB 2 [vi il, vi wo, vi wd, vi oe]), (hr1, aI g 10 T), (hr2, aI g 121 Fp), (h0, oB 6 [vi w, vi h, .ref h0r, .ref h0x, .ref h0y, vi n, vi m, vi c]), (h0x, aI g 10 X), (h0y, aI g 10 Y), (hd, oB 1 [.ref hdf, vi w, vi h]), (hdf, aI g 169 D)] sz) 0 0 (va_A [(hr, oB 4 [.ref hrs, .ref hrf, .ref hr1, vi fo, .ref hr2, .ref hr3, .ref hr4, vi cc, vi cb]), (hrs, oB 8 [.ref hrsx, .ref hrsy, vi ns, vi lf, vi rt, vi tp, vi bt]), (hrsx, aI g 10 P), (hrsy, aI g 10 Q), (hrf, oB 2 [vi il, vi wo, vi wd, vi oe]), (hr1, aI g 10 T), (hr2, aI g 121 Fp), (h0, oB 6 [vi w, vi h, .ref h0r, .ref h0x, .ref h0y, vi n, vi m, vi c]), (h0x, aI g 10 X), (h0y, aI g 10 Y), (hd, oB 1 [.ref hdf, vi w, vi h]), (hdf, aI g 169 D)] sz) := by
  refine meet (own := RX5) rfl (plainFor_of_name (by decide +kernel)) rfl (fun p_ e_ s_ m_ args_ below_ meth_ c_ C hnm => ?_)
  refine r_at (ws' := [(hr, oB 4 [.ref hrs, .ref hrf, .ref hr1, vi fo, .ref hr2, .ref hr3, .ref hr4, vi cc, vi cb]), (hrs, oB 8 [.ref hrsx, .ref hrsy, vi ns, vi lf, vi rt, vi tp, vi bt]), (hrsx, aI g 10 P), (hrsy, aI g 10 Q), (hrf, oB 2 [vi il, vi wo, vi wd, vi oe]), (hr1, aI g 10 T), (hr2, aI g 121 Fp), (h0, oB 6 [vi w, vi h, .ref h0r, .ref h0x, .ref h0y, vi n, vi m, vi c]), (h0x, aI g 10 X), (h0y, aI g 10 Y), (hd, oB 1 [.ref hdf, vi w, vi h]), (hdf, aI g 169 D)]) (lv' := [(0, .ref hr), (1, .ref h0), (2, .ref hd)]) rfl rfl ?_
  have hfr : ∀ u v : Int, 0 ≤ u → u < w → 0 ≤ v → v < h → 0 ≤ (fun a b => D (ix a b)) u v ∧ (fun a b => D (ix a b)) u v ≤ 99 := fun u v a1 a2 a3 a4 => hD (ix u v) (by unfold ix; omega) (by unfold ix; omega)
  refine r_aload_n C dX5_seek_0 0 rfl ?_
  refine r_iconst C dX5_seek_1 ?_
  refine pf_X5_29 C (ws' := [(hr, oB 4 [.ref hrs, .ref hrf, .ref hr1, vi 0, .ref hr2, .ref hr3, .ref hr4, vi cc, vi cb]), (hrs, oB 8 [.ref hrsx, .ref hrsy, vi ns, vi lf, vi rt, vi tp, vi bt]), (hrsx, aI g 10 P), (hrsy, aI g 10 Q), (hrf, oB 2 [vi il, vi wo, vi wd, vi oe]), (hr1, aI g 10 T), (hr2, aI g 121 Fp), (h0, oB 6 [vi w, vi h, .ref h0r, .ref h0x, .ref h0y, vi n, vi m, vi c]), (h0x, aI g 10 X), (h0y, aI g 10 Y), (hd, oB 1 [.ref hdf, vi w, vi h]), (hdf, aI g 169 D)]) dX5_seek_2 0 rfl (Nat.le_of_ble_eq_true rfl) rfl ?_
  refine r_aload_n C dX5_seek_5 0 rfl ?_
  refine r_iconst C dX5_seek_6 ?_
  refine pf_X5_48 C (ws' := [(hr, oB 4 [.ref hrs, .ref hrf, .ref hr1, vi 0, .ref hr2, .ref hr3, .ref hr4, vi cc, vi 0]), (hrs, oB 8 [.ref hrsx, .ref hrsy, vi ns, vi lf, vi rt, vi tp, vi bt]), (hrsx, aI g 10 P), (hrsy, aI g 10 Q), (hrf, oB 2 [vi il, vi wo, vi wd, vi oe]), (hr1, aI g 10 T), (hr2, aI g 121 Fp), (h0, oB 6 [vi w, vi h, .ref h0r, .ref h0x, .ref h0y, vi n, vi m, vi c]), (h0x, aI g 10 X), (h0y, aI g 10 Y), (hd, oB 1 [.ref hdf, vi w, vi h]), (hdf, aI g 169 D)]) dX5_seek_7 0 rfl (Nat.le_of_ble_eq_true rfl) rfl ?_
  refine r_iconst C dX5_seek_10 ?_
  refine r_istore_n C (lv' := [(3, vi 0), (0, .ref hr), (1, .ref h0), (2, .ref hd)]) dX5_seek_11 rfl rfl ?_
  refine r_lv (lv' := [(0, .ref hr), (1, .ref h0), (2, .ref hd), (3, vi 0)]) [1, 2, 3, 0] rfl ?_
  refine r_loop (σ := Int × (Int → Int)) (fun z_ => (0 ≤ z_.1 ∧ z_.1 ≤ 121) ∧ (∀ q : Int, 0 ≤ q → q < z_.1 → z_.2 q = 1073741824)) (fun z_ => 121 - z_.1) (fun z_ => [(hr, oB 4 [.ref hrs, .ref hrf, .ref hr1, vi 0, .ref hr2, .ref hr3, .ref hr4, vi cc, vi 0]), (hrs, oB 8 [.ref hrsx, .ref hrsy, vi ns, vi lf, vi rt, vi tp, vi bt]), (hrsx, aI g 10 P), (hrsy, aI g 10 Q), (hrf, oB 2 [vi il, vi wo, vi wd, vi oe]), (hr1, aI g 10 T), (hr2, aI g 121 z_.2), (h0, oB 6 [vi w, vi h, .ref h0r, .ref h0x, .ref h0y, vi n, vi m, vi c]), (h0x, aI g 10 X), (h0y, aI g 10 Y), (hd, oB 1 [.ref hdf, vi w, vi h]), (hdf, aI g 169 D)]) (fun z_ => [(0, .ref hr), (1, .ref h0), (2, .ref hd), (3, vi z_.1)]) (fun z_ hz => ?_) (fun z_ hz ih_12 => ?_) (((0, Fp) : Int × (Int → Int))) ?_
  · obtain ⟨k, F1⟩ := z_
    obtain ⟨hk, hF1⟩ := hz
    have hk : 0 ≤ k ∧ k ≤ 121 := hk
    have hF1 : ∀ q : Int, 0 ≤ q → q < k → F1 q = 1073741824 := hF1
    show (0 : Int) ≤ 121 - k
    omega
  rotate_left
  · show (0 ≤ 0 ∧ 0 ≤ 121) ∧ (∀ q : Int, 0 ≤ q → q < 0 → Fp q = 1073741824)
    exact ⟨(by decide), (fun q a b => by omega)⟩
  obtain ⟨k, F1⟩ := z_
  obtain ⟨hk, hF1⟩ := hz
  have hk : 0 ≤ k ∧ k ≤ 121 := hk
  have hF1 : ∀ q : Int, 0 ≤ q → q < k → F1 q = 1073741824 := hF1
  refine r_at (ws' := [(hr, oB 4 [.ref hrs, .ref hrf, .ref hr1, vi 0, .ref hr2, .ref hr3, .ref hr4, vi cc, vi 0]), (hrs, oB 8 [.ref hrsx, .ref hrsy, vi ns, vi lf, vi rt, vi tp, vi bt]), (hrsx, aI g 10 P), (hrsy, aI g 10 Q), (hrf, oB 2 [vi il, vi wo, vi wd, vi oe]), (hr1, aI g 10 T), (hr2, aI g 121 F1), (h0, oB 6 [vi w, vi h, .ref h0r, .ref h0x, .ref h0y, vi n, vi m, vi c]), (h0x, aI g 10 X), (h0y, aI g 10 Y), (hd, oB 1 [.ref hdf, vi w, vi h]), (hdf, aI g 169 D)]) (lv' := [(0, .ref hr), (1, .ref h0), (2, .ref hd), (3, vi k)]) rfl rfl ?_
  refine r_iload_n C dX5_seek_12 3 rfl ?_
  refine r_aload_n C dX5_seek_13 0 rfl ?_
  refine gf_X5_35 C dX5_seek_14 0 rfl rfl ?_
  refine r_ilen C dX5_seek_17 6 rfl ?_
  refine r_eq (y := 121) rfl ?_
  refine r_icmp_ge C 35 dX5_seek_18 rfl (by omega) (fun c_1 => ?_) (fun c_1 => ?_)
  · skip
    refine r_iconst C dX5_seek_35 ?_
    refine r_istore_n C (lv' := [(3, vi 0), (0, .ref hr), (1, .ref h0), (2, .ref hd)]) dX5_seek_36 rfl rfl ?_
    refine r_lv (lv' := [(0, .ref hr), (1, .ref h0), (2, .ref hd), (3, vi 0)]) [1, 2, 3, 0] rfl ?_
    refine r_loop (σ := Int × (Int → Int) × (Int → Int) × Int × Int × Int × Int × Int × Int × Int × Int × Int × Int × (Int → Int) × (Int → Int)) (fun z_ => (0 ≤ z_.1 ∧ z_.1 ≤ 24) ∧ (TOP (RSB w h (fun a b => D (ix a b)) X Y n z_.1 0 0) z_.2.2.2.2.2.2.2.2.2.2.2.2.2.1 z_.2.2.2.2.2.2.2.2.2.2.2.2.1) ∧ (FAP (RSB w h (fun a b => D (ix a b)) X Y n z_.1 0 0) z_.2.2.2.2.2.2.2.2.2.2.2.2.2.2)) (fun z_ => 24 - z_.1) (fun z_ => [(hr, oB 4 [.ref hrs, .ref hrf, .ref hr1, vi z_.2.2.2.2.2.2.2.2.2.2.2.2.1, .ref hr2, .ref hr3, .ref hr4, vi cc, vi 0]), (hrs, oB 8 [.ref hrsx, .ref hrsy, vi z_.2.2.2.1, vi z_.2.2.2.2.1, vi z_.2.2.2.2.2.1, vi z_.2.2.2.2.2.2.1, vi z_.2.2.2.2.2.2.2.1]), (hrsx, aI g 10 z_.2.1), (hrsy, aI g 10 z_.2.2.1), (hrf, oB 2 [vi z_.2.2.2.2.2.2.2.2.1, vi z_.2.2.2.2.2.2.2.2.2.1, vi z_.2.2.2.2.2.2.2.2.2.2.1, vi z_.2.2.2.2.2.2.2.2.2.2.2.1]), (hr1, aI g 10 z_.2.2.2.2.2.2.2.2.2.2.2.2.2.1), (hr2, aI g 121 z_.2.2.2.2.2.2.2.2.2.2.2.2.2.2), (h0, oB 6 [vi w, vi h, .ref h0r, .ref h0x, .ref h0y, vi n, vi m, vi c]), (h0x, aI g 10 X), (h0y, aI g 10 Y), (hd, oB 1 [.ref hdf, vi w, vi h]), (hdf, aI g 169 D)]) (fun z_ => [(0, .ref hr), (1, .ref h0), (2, .ref hd), (3, vi z_.1)]) (fun z_ hz => ?_) (fun z_ hz ih_37 => ?_) (((0, P, Q, ns, lf, rt, tp, bt, il, wo, wd, oe, 0, T, F1) : Int × (Int → Int) × (Int → Int) × Int × Int × Int × Int × Int × Int × Int × Int × Int × Int × (Int → Int) × (Int → Int))) ?_
    · obtain ⟨mn, P3, Q3, ns3, lf3, rt3, tp3, bt3, il3, wo3, wd3, oe3, fo3, T3, Fp3⟩ := z_
      obtain ⟨hmn, hT3, hF3⟩ := hz
      have hmn : 0 ≤ mn ∧ mn ≤ 24 := hmn
      have hT3 : TOP (RSB w h (fun a b => D (ix a b)) X Y n mn 0 0) T3 fo3 := hT3
      have hF3 : FAP (RSB w h (fun a b => D (ix a b)) X Y n mn 0 0) Fp3 := hF3
      show (0 : Int) ≤ 24 - mn
      omega
    rotate_left
    · show (0 ≤ 0 ∧ 0 ≤ 24) ∧ (TOP (RSB w h (fun a b => D (ix a b)) X Y n 0 0 0) T 0) ∧ (FAP (RSB w h (fun a b => D (ix a b)) X Y n 0 0 0) F1)
      exact ⟨(by decide), (TOP_iff RSB_0 (TOP_0 _)), (FAP_iff RSB_0 (FAP_0 (fun q a b => hF1 q a (by omega))))⟩
    obtain ⟨mn, P3, Q3, ns3, lf3, rt3, tp3, bt3, il3, wo3, wd3, oe3, fo3, T3, Fp3⟩ := z_
    obtain ⟨hmn, hT3, hF3⟩ := hz
    have hmn : 0 ≤ mn ∧ mn ≤ 24 := hmn
    have hT3 : TOP (RSB w h (fun a b => D (ix a b)) X Y n mn 0 0) T3 fo3 := hT3
    have hF3 : FAP (RSB w h (fun a b => D (ix a b)) X Y n mn 0 0) Fp3 := hF3
    refine r_at (ws' := [(hr, oB 4 [.ref hrs, .ref hrf, .ref hr1, vi fo3, .ref hr2, .ref hr3, .ref hr4, vi cc, vi 0]), (hrs, oB 8 [.ref hrsx, .ref hrsy, vi ns3, vi lf3, vi rt3, vi tp3, vi bt3]), (hrsx, aI g 10 P3), (hrsy, aI g 10 Q3), (hrf, oB 2 [vi il3, vi wo3, vi wd3, vi oe3]), (hr1, aI g 10 T3), (hr2, aI g 121 Fp3), (h0, oB 6 [vi w, vi h, .ref h0r, .ref h0x, .ref h0y, vi n, vi m, vi c]), (h0x, aI g 10 X), (h0y, aI g 10 Y), (hd, oB 1 [.ref hdf, vi w, vi h]), (hdf, aI g 169 D)]) (lv' := [(0, .ref hr), (1, .ref h0), (2, .ref hd), (3, vi mn)]) rfl rfl ?_
    refine r_iload_n C dX5_seek_37 3 rfl ?_
    refine r_bipush C dX5_seek_38 rfl ?_
    refine r_icmp_ge C 150 dX5_seek_40 rfl (by omega) (fun c_2 => ?_) (fun c_2 => ?_)
    · skip
      exact e_v C (P3, Q3, ns3, lf3, rt3, tp3, bt3, il3, wo3, wd3, oe3, fo3, T3, Fp3) dX5_seek_150 (show TOP (RS w h (fun a b => D (ix a b)) X Y n) T3 fo3 ∧ FAP (RS w h (fun a b => D (ix a b)) X Y n) Fp3 from ⟨TOP_iff (RSB_end (by omega)) hT3, FAP_iff (RSB_end (by omega)) hF3⟩) rfl
    · skip
      refine r_aload_n C dX5_seek_43 0 rfl ?_
      refine gf_X5_12 C dX5_seek_44 0 rfl rfl ?_
      refine r_aload_n C dX5_seek_47 1 rfl ?_
      refine r_iload_n C dX5_seek_48 3 rfl ?_
      refine k_Si C ks_X5_52 (fun sz => c_X4_scaleOf l g mn (by omega) sz) dX5_seek_49 rfl rfl rfl ⟨rfl, rfl⟩ [] rfl rfl (fun _ => rfl) (ws' := fun u_ => [(hr, oB 4 [.ref hrs, .ref hrf, .ref hr1, vi fo3, .ref hr2, .ref hr3, .ref hr4, vi cc, vi 0]), (hrs, oB 8 [.ref hrsx, .ref hrsy, vi ns3, vi lf3, vi rt3, vi tp3, vi bt3]), (hrsx, aI g 10 P3), (hrsy, aI g 10 Q3), (hrf, oB 2 [vi il3, vi wo3, vi wd3, vi oe3]), (hr1, aI g 10 T3), (hr2, aI g 121 Fp3), (h0, oB 6 [vi w, vi h, .ref h0r, .ref h0x, .ref h0y, vi n, vi m, vi c]), (h0x, aI g 10 X), (h0y, aI g 10 Y), (hd, oB 1 [.ref hdf, vi w, vi h]), (hdf, aI g 169 D)]) (fun _ => rfl) (fun r_49 u_ p_49 => ?_)
      have p_49 : r_49 = mn / 8 + 2 := p_49
      refine r_eq (y := (mn / 8 + 2)) p_49 ?_
      refine r_iload_n C dX5_seek_52 3 rfl ?_
      refine k_Si C ks_X5_56 (fun sz => c_X4_turnsOf l g mn (by omega) sz) dX5_seek_53 rfl rfl rfl ⟨rfl, rfl⟩ [] rfl rfl (fun _ => rfl) (ws' := fun u_ => [(hr, oB 4 [.ref hrs, .ref hrf, .ref hr1, vi fo3, .ref hr2, .ref hr3, .ref hr4, vi cc, vi 0]), (hrs, oB 8 [.ref hrsx, .ref hrsy, vi ns3, vi lf3, vi rt3, vi tp3, vi bt3]), (hrsx, aI g 10 P3), (hrsy, aI g 10 Q3), (hrf, oB 2 [vi il3, vi wo3, vi wd3, vi oe3]), (hr1, aI g 10 T3), (hr2, aI g 121 Fp3), (h0, oB 6 [vi w, vi h, .ref h0r, .ref h0x, .ref h0y, vi n, vi m, vi c]), (h0x, aI g 10 X), (h0y, aI g 10 Y), (hd, oB 1 [.ref hdf, vi w, vi h]), (hdf, aI g 169 D)]) (fun _ => rfl) (fun r_53 u_ p_53 => ?_)
      have p_53 : r_53 = mn / 2 % 4 := p_53
      refine r_eq (y := (mn / 2 % 4)) p_53 ?_
      refine r_iload_n C dX5_seek_56 3 rfl ?_
      refine k_Si C ks_X5_59 (fun sz => c_X4_flipOf l g mn (by omega) sz) dX5_seek_57 rfl rfl rfl ⟨rfl, rfl⟩ [] rfl rfl (fun _ => rfl) (ws' := fun u_ => [(hr, oB 4 [.ref hrs, .ref hrf, .ref hr1, vi fo3, .ref hr2, .ref hr3, .ref hr4, vi cc, vi 0]), (hrs, oB 8 [.ref hrsx, .ref hrsy, vi ns3, vi lf3, vi rt3, vi tp3, vi bt3]), (hrsx, aI g 10 P3), (hrsy, aI g 10 Q3), (hrf, oB 2 [vi il3, vi wo3, vi wd3, vi oe3]), (hr1, aI g 10 T3), (hr2, aI g 121 Fp3), (h0, oB 6 [vi w, vi h, .ref h0r, .ref h0x, .ref h0y, vi n, vi m, vi c]), (h0x, aI g 10 X), (h0y, aI g 10 Y), (hd, oB 1 [.ref hdf, vi w, vi h]), (hdf, aI g 169 D)]) (fun _ => rfl) (fun r_57 u_ p_57 => ?_)
      have p_57 : r_57 = mn % 2 := p_57
      refine r_eq (y := (mn % 2)) p_57 ?_
      refine k_Vv C kv_X5_62 (fun sz => c_X9_form l g h0 h0r h0x h0y w h n m c X Y hrs hrsx hrsy P3 Q3 ns3 lf3 rt3 tp3 bt3 (mn / 8 + 2) (mn / 2 % 4) (mn % 2) (by omega) hX hY (by omega) (by omega) (by omega) sz) dX5_seek_60 rfl rfl rfl ⟨rfl, rfl⟩ 1 8 rfl rfl rfl [7, 8, 9, 1, 2, 3] rfl rfl (fun _ => rfl) (ws' := fun u_ => [(hr, oB 4 [.ref hrs, .ref hrf, .ref hr1, vi fo3, .ref hr2, .ref hr3, .ref hr4, vi cc, vi 0]), (hrs, oB 8 [.ref hrsx, .ref hrsy, vi n, vi u_.2.2.1, vi u_.2.2.2.1, vi u_.2.2.2.2.1, vi u_.2.2.2.2.2]), (hrsx, aI g 10 u_.1), (hrsy, aI g 10 u_.2.1), (hrf, oB 2 [vi il3, vi wo3, vi wd3, vi oe3]), (hr1, aI g 10 T3), (hr2, aI g 121 Fp3), (h0, oB 6 [vi w, vi h, .ref h0r, .ref h0x, .ref h0y, vi n, vi m, vi c]), (h0x, aI g 10 X), (h0y, aI g 10 Y), (hd, oB 1 [.ref hdf, vi w, vi h]), (hdf, aI g 169 D)]) (fun _ => rfl) (fun u_ p_60 => ?_)
      obtain ⟨P2_60, Q2_60, l2_60, r2_60, t2_60, b2_60⟩ := u_
      refine r_at (ws' := [(hr, oB 4 [.ref hrs, .ref hrf, .ref hr1, vi fo3, .ref hr2, .ref hr3, .ref hr4, vi cc, vi 0]), (hrs, oB 8 [.ref hrsx, .ref hrsy, vi n, vi l2_60, vi r2_60, vi t2_60, vi b2_60]), (hrsx, aI g 10 P2_60), (hrsy, aI g 10 Q2_60), (hrf, oB 2 [vi il3, vi wo3, vi wd3, vi oe3]), (hr1, aI g 10 T3), (hr2, aI g 121 Fp3), (h0, oB 6 [vi w, vi h, .ref h0r, .ref h0x, .ref h0y, vi n, vi m, vi c]), (h0x, aI g 10 X), (h0y, aI g 10 Y), (hd, oB 1 [.ref hdf, vi w, vi h]), (hdf, aI g 169 D)]) (lv' := [(0, .ref hr), (1, .ref h0), (2, .ref hd), (3, vi mn)]) rfl rfl ?_
      have p_60 : SHP X Y n (mn / 8 + 2) (mn / 2 % 4) (mn % 2) P2_60 Q2_60 l2_60 r2_60 t2_60 b2_60 := p_60
      have hPw : ∀ d : Int, 0 ≤ d → d < n → P2_60 d = wX X Y mn d := fun d a b => p_60.1 d a b
      have hQw : ∀ d : Int, 0 ≤ d → d < n → Q2_60 d = wY X Y mn d := fun d a b => p_60.2.1 d a b
      have hbx := BX_b (by omega) (fun d a b => by rw [p_60.1 d a b]; exact lX_bd (hX d a b) (hY d a b) (by omega)) (fun d a b => by rw [p_60.2.1 d a b]; exact lY_bd (hX d a b) (hY d a b) (by omega)) p_60.2.2
      refine r_iconst C dX5_seek_63 ?_
      refine r_istore C (lv' := [(4, vi 0), (0, .ref hr), (1, .ref h0), (2, .ref hd), (3, vi mn)]) dX5_seek_64 rfl rfl ?_
      refine r_lv (lv' := [(0, .ref hr), (1, .ref h0), (2, .ref hd), (3, vi mn), (4, vi 0)]) [1, 2, 3, 4, 0] rfl ?_
      refine r_loop (σ := Int × Int × Int × Int × Int × Int × (Int → Int) × (Int → Int)) (fun z_ => (0 ≤ z_.1 ∧ z_.1 ≤ h) ∧ (TOP (RSB w h (fun a b => D (ix a b)) X Y n mn z_.1 0) z_.2.2.2.2.2.2.1 z_.2.2.2.2.2.1) ∧ (FAP (RSB w h (fun a b => D (ix a b)) X Y n mn z_.1 0) z_.2.2.2.2.2.2.2)) (fun z_ => h - z_.1) (fun z_ => [(hr, oB 4 [.ref hrs, .ref hrf, .ref hr1, vi z_.2.2.2.2.2.1, .ref hr2, .ref hr3, .ref hr4, vi cc, vi 0]), (hrs, oB 8 [.ref hrsx, .ref hrsy, vi n, vi l2_60, vi r2_60, vi t2_60, vi b2_60]), (hrsx, aI g 10 P2_60), (hrsy, aI g 10 Q2_60), (hrf, oB 2 [vi z_.2.1, vi z_.2.2.1, vi z_.2.2.2.1, vi z_.2.2.2.2.1]), (hr1, aI g 10 z_.2.2.2.2.2.2.1), (hr2, aI g 121 z_.2.2.2.2.2.2.2), (h0, oB 6 [vi w, vi h, .ref h0r, .ref h0x, .ref h0y, vi n, vi m, vi c]), (h0x, aI g 10 X), (h0y, aI g 10 Y), (hd, oB 1 [.ref hdf, vi w, vi h]), (hdf, aI g 169 D)]) (fun z_ => [(0, .ref hr), (1, .ref h0), (2, .ref hd), (3, vi mn), (4, vi z_.1)]) (fun z_ hz => ?_) (fun z_ hz ih_66 => ?_) (((0, il3, wo3, wd3, oe3, fo3, T3, Fp3) : Int × Int × Int × Int × Int × Int × (Int → Int) × (Int → Int))) ?_
      · obtain ⟨y, il4, wo4, wd4, oe4, fo4, T4, Fp4⟩ := z_
        obtain ⟨hy, hT4, hF4⟩ := hz
        have hy : 0 ≤ y ∧ y ≤ h := hy
        have hT4 : TOP (RSB w h (fun a b => D (ix a b)) X Y n mn y 0) T4 fo4 := hT4
        have hF4 : FAP (RSB w h (fun a b => D (ix a b)) X Y n mn y 0) Fp4 := hF4
        show (0 : Int) ≤ h - y
        omega
      rotate_left
      · show (0 ≤ 0 ∧ 0 ≤ h) ∧ (TOP (RSB w h (fun a b => D (ix a b)) X Y n mn 0 0) T3 fo3) ∧ (FAP (RSB w h (fun a b => D (ix a b)) X Y n mn 0 0) Fp3)
        exact ⟨(by omega), (hT3), (hF3)⟩
      obtain ⟨y, il4, wo4, wd4, oe4, fo4, T4, Fp4⟩ := z_
      obtain ⟨hy, hT4, hF4⟩ := hz
      have hy : 0 ≤ y ∧ y ≤ h := hy
      have hT4 : TOP (RSB w h (fun a b => D (ix a b)) X Y n mn y 0) T4 fo4 := hT4
      have hF4 : FAP (RSB w h (fun a b => D (ix a b)) X Y n mn y 0) Fp4 := hF4
      refine r_at (ws' := [(hr, oB 4 [.ref hrs, .ref hrf, .ref hr1, vi fo4, .ref hr2, .ref hr3, .ref hr4, vi cc, vi 0]), (hrs, oB 8 [.ref hrsx, .ref hrsy, vi n, vi l2_60, vi r2_60, vi t2_60, vi b2_60]), (hrsx, aI g 10 P2_60), (hrsy, aI g 10 Q2_60), (hrf, oB 2 [vi il4, vi wo4, vi wd4, vi oe4]), (hr1, aI g 10 T4), (hr2, aI g 121 Fp4), (h0, oB 6 [vi w, vi h, .ref h0r, .ref h0x, .ref h0y, vi n, vi m, vi c]), (h0x, aI g 10 X), (h0y, aI g 10 Y), (hd, oB 1 [.ref hdf, vi w, vi h]), (hdf, aI g 169 D)]) (lv' := [(0, .ref hr), (1, .ref h0), (2, .ref hd), (3, vi mn), (4, vi y)]) rfl rfl ?_
      refine r_iload C dX5_seek_66 4 rfl ?_
      refine r_aload_n C dX5_seek_68 1 rfl ?_
      refine gf_X5_66 C dX5_seek_69 7 rfl rfl ?_
      refine r_icmp_ge C 144 dX5_seek_72 rfl (by omega) (fun c_3 => ?_) (fun c_3 => ?_)
      · skip
        refine r_iinc C (lv' := [(3, vi (mn + 1)), (0, .ref hr), (1, .ref h0), (2, .ref hd), (4, vi y)]) dX5_seek_144 3 rfl rfl rfl ?_
        refine r_goto C 37 dX5_seek_147 rfl ?_
        refine r_lv (lv' := [(0, .ref hr), (1, .ref h0), (2, .ref hd), (3, vi (mn + 1))]) [1, 2, 3, 0] rfl ?_
        exact ih_37 (mn + 1, P2_60, Q2_60, n, l2_60, r2_60, t2_60, b2_60, il4, wo4, wd4, oe4, fo4, T4, Fp4) (show (0 ≤ (mn + 1) ∧ (mn + 1) ≤ 24) ∧ (TOP (RSB w h (fun a b => D (ix a b)) X Y n (mn + 1) 0 0) T4 fo4) ∧ (FAP (RSB w h (fun a b => D (ix a b)) X Y n (mn + 1) 0 0) Fp4) from ⟨(by omega), (TOP_iff (RSB_way (by omega)) hT4), (FAP_iff (RSB_way (by omega)) hF4)⟩) (show 24 - (mn + 1) < 24 - mn from by omega)
      · skip
        refine r_iconst C dX5_seek_75 ?_
        refine r_istore C (lv' := [(5, vi 0), (0, .ref hr), (1, .ref h0), (2, .ref hd), (3, vi mn), (4, vi y)]) dX5_seek_76 rfl rfl ?_
        refine r_lv (lv' := [(0, .ref hr), (1, .ref h0), (2, .ref hd), (3, vi mn), (4, vi y), (5, vi 0)]) [1, 2, 3, 4, 5, 0] rfl ?_
        refine r_loop (σ := Int × Int × Int × Int × Int × Int × (Int → Int) × (Int → Int)) (fun z_ => (0 ≤ z_.1 ∧ z_.1 ≤ w) ∧ (TOP (RSB w h (fun a b => D (ix a b)) X Y n mn y z_.1) z_.2.2.2.2.2.2.1 z_.2.2.2.2.2.1) ∧ (FAP (RSB w h (fun a b => D (ix a b)) X Y n mn y z_.1) z_.2.2.2.2.2.2.2)) (fun z_ => w - z_.1) (fun z_ => [(hr, oB 4 [.ref hrs, .ref hrf, .ref hr1, vi z_.2.2.2.2.2.1, .ref hr2, .ref hr3, .ref hr4, vi cc, vi 0]), (hrs, oB 8 [.ref hrsx, .ref hrsy, vi n, vi l2_60, vi r2_60, vi t2_60, vi b2_60]), (hrsx, aI g 10 P2_60), (hrsy, aI g 10 Q2_60), (hrf, oB 2 [vi z_.2.1, vi z_.2.2.1, vi z_.2.2.2.1, vi z_.2.2.2.2.1]), (hr1, aI g 10 z_.2.2.2.2.2.2.1), (hr2, aI g 121 z_.2.2.2.2.2.2.2), (h0, oB 6 [vi w, vi h, .ref h0r, .ref h0x, .ref h0y, vi n, vi m, vi c]), (h0x, aI g 10 X), (h0y, aI g 10 Y), (hd, oB 1 [.ref hdf, vi w, vi h]), (hdf, aI g 169 D)]) (fun z_ => [(0, .ref hr), (1, .ref h0), (2, .ref hd), (3, vi mn), (4, vi y), (5, vi z_.1)]) (fun z_ hz => ?_) (fun z_ hz ih_78 => ?_) (((0, il4, wo4, wd4, oe4, fo4, T4, Fp4) : Int × Int × Int × Int × Int × Int × (Int → Int) × (Int → Int))) ?_
        · obtain ⟨x, il5, wo5, wd5, oe5, fo5, T5, Fp5⟩ := z_
          obtain ⟨hx, hT5, hF5⟩ := hz
          have hx : 0 ≤ x ∧ x ≤ w := hx
          have hT5 : TOP (RSB w h (fun a b => D (ix a b)) X Y n mn y x) T5 fo5 := hT5
          have hF5 : FAP (RSB w h (fun a b => D (ix a b)) X Y n mn y x) Fp5 := hF5
          show (0 : Int) ≤ w - x
          omega
        rotate_left
        · show (0 ≤ 0 ∧ 0 ≤ w) ∧ (TOP (RSB w h (fun a b => D (ix a b)) X Y n mn y 0) T4 fo4) ∧ (FAP (RSB w h (fun a b => D (ix a b)) X Y n mn y 0) Fp4)
          exact ⟨(by omega), (hT4), (hF4)⟩
        obtain ⟨x, il5, wo5, wd5, oe5, fo5, T5, Fp5⟩ := z_
        obtain ⟨hx, hT5, hF5⟩ := hz
        have hx : 0 ≤ x ∧ x ≤ w := hx
        have hT5 : TOP (RSB w h (fun a b => D (ix a b)) X Y n mn y x) T5 fo5 := hT5
        have hF5 : FAP (RSB w h (fun a b => D (ix a b)) X Y n mn y x) Fp5 := hF5
        refine r_at (ws' := [(hr, oB 4 [.ref hrs, .ref hrf, .ref hr1, vi fo5, .ref hr2, .ref hr3, .ref hr4, vi cc, vi 0]), (hrs, oB 8 [.ref hrsx, .ref hrsy, vi n, vi l2_60, vi r2_60, vi t2_60, vi b2_60]), (hrsx, aI g 10 P2_60), (hrsy, aI g 10 Q2_60), (hrf, oB 2 [vi il5, vi wo5, vi wd5, vi oe5]), (hr1, aI g 10 T5), (hr2, aI g 121 Fp5), (h0, oB 6 [vi w, vi h, .ref h0r, .ref h0x, .ref h0y, vi n, vi m, vi c]), (h0x, aI g 10 X), (h0y, aI g 10 Y), (hd, oB 1 [.ref hdf, vi w, vi h]), (hdf, aI g 169 D)]) (lv' := [(0, .ref hr), (1, .ref h0), (2, .ref hd), (3, vi mn), (4, vi y), (5, vi x)]) rfl rfl ?_
        refine r_iload C dX5_seek_78 5 rfl ?_
        refine r_aload_n C dX5_seek_80 1 rfl ?_
        refine gf_X5_71 C dX5_seek_81 7 rfl rfl ?_
        refine r_icmp_ge C 138 dX5_seek_84 rfl (by omega) (fun c_4 => ?_) (fun c_4 => ?_)
        · skip
          refine r_iinc C (lv' := [(4, vi (y + 1)), (0, .ref hr), (1, .ref h0), (2, .ref hd), (3, vi mn), (5, vi x)]) dX5_seek_138 4 rfl rfl rfl ?_
          refine r_goto C 66 dX5_seek_141 rfl ?_
          refine r_lv (lv' := [(0, .ref hr), (1, .ref h0), (2, .ref hd), (3, vi mn), (4, vi (y + 1))]) [1, 2, 3, 4, 0] rfl ?_
          exact ih_66 (y + 1, il5, wo5, wd5, oe5, fo5, T5, Fp5) (show (0 ≤ (y + 1) ∧ (y + 1) ≤ h) ∧ (TOP (RSB w h (fun a b => D (ix a b)) X Y n mn (y + 1) 0) T5 fo5) ∧ (FAP (RSB w h (fun a b => D (ix a b)) X Y n mn (y + 1) 0) Fp5) from ⟨(by omega), (TOP_iff (RSB_row (by omega)) hT5), (FAP_iff (RSB_row (by omega)) hF5)⟩) (show h - (y + 1) < h - y from by omega)
        · skip
          refine r_aload_n C dX5_seek_87 0 rfl ?_
          refine gf_X5_21 C dX5_seek_88 0 rfl rfl ?_
          refine r_aload_n C dX5_seek_91 2 rfl ?_
          refine r_aload_n C dX5_seek_92 0 rfl ?_
          refine gf_X5_12 C dX5_seek_93 0 rfl rfl ?_
          refine r_iload C dX5_seek_96 5 rfl ?_
          refine r_iload C dX5_seek_98 4 rfl ?_
          refine k_Vi C kv_X5_74 (fun sz => c_X2_weigh l g hrf il5 wo5 wd5 oe5 hd hdf D w h hrs hrsx hrsy P2_60 Q2_60 n l2_60 r2_60 t2_60 b2_60 x y (by omega) hbx hn p_60.2.2 (by omega) hD sz) dX5_seek_100 rfl rfl rfl ⟨rfl, rfl⟩ 4 2 rfl rfl rfl [4, 10, 11, 1, 2, 3] rfl rfl (fun _ => rfl) (ws' := fun u_ => [(hr, oB 4 [.ref hrs, .ref hrf, .ref hr1, vi fo5, .ref hr2, .ref hr3, .ref hr4, vi cc, vi 0]), (hrs, oB 8 [.ref hrsx, .ref hrsy, vi n, vi l2_60, vi r2_60, vi t2_60, vi b2_60]), (hrsx, aI g 10 P2_60), (hrsy, aI g 10 Q2_60), (hrf, oB 2 [vi u_.1, vi u_.2.1, vi u_.2.2.1, vi u_.2.2.2]), (hr1, aI g 10 T5), (hr2, aI g 121 Fp5), (h0, oB 6 [vi w, vi h, .ref h0r, .ref h0x, .ref h0y, vi n, vi m, vi c]), (h0x, aI g 10 X), (h0y, aI g 10 Y), (hd, oB 1 [.ref hdf, vi w, vi h]), (hdf, aI g 169 D)]) (fun _ => rfl) (fun r_100 u_ p_100 => ?_)
          obtain ⟨i2_100, w2_100, d2_100, o2_100⟩ := u_
          refine r_at (ws' := [(hr, oB 4 [.ref hrs, .ref hrf, .ref hr1, vi fo5, .ref hr2, .ref hr3, .ref hr4, vi cc, vi 0]), (hrs, oB 8 [.ref hrsx, .ref hrsy, vi n, vi l2_60, vi r2_60, vi t2_60, vi b2_60]), (hrsx, aI g 10 P2_60), (hrsy, aI g 10 Q2_60), (hrf, oB 2 [vi i2_100, vi w2_100, vi d2_100, vi o2_100]), (hr1, aI g 10 T5), (hr2, aI g 121 Fp5), (h0, oB 6 [vi w, vi h, .ref h0r, .ref h0x, .ref h0y, vi n, vi m, vi c]), (h0x, aI g 10 X), (h0y, aI g 10 Y), (hd, oB 1 [.ref hdf, vi w, vi h]), (hdf, aI g 169 D)]) (lv' := [(0, .ref hr), (1, .ref h0), (2, .ref hd), (3, vi mn), (4, vi y), (5, vi x)]) rfl rfl ?_
          have p_100 : (r_100 = 1 ∧ FT P2_60 Q2_60 n w h x y ∧ i2_100 = sI (frF D P2_60 Q2_60 x y) n ∧ w2_100 = mxI (frF D P2_60 Q2_60 x y) n ∧ d2_100 = wdI (frF D P2_60 Q2_60 x y) n ∧ o2_100 = sI (is0 (frF D P2_60 Q2_60 x y)) n) ∨ (r_100 = 0 ∧ ¬ FT P2_60 Q2_60 n w h x y) := p_100
          have hfc := FT_cong (w := w) (h := h) (x := x) (y := y) hPw hQw
          refine r_if_eq C 132 dX5_seek_103 rfl (by omega) (fun c_5 => ?_) (fun c_5 => ?_)
          · skip
            have hnf : ¬ FT (wX X Y mn) (wY X Y mn) n w h x y := fun z => by
              rcases p_100 with q | q
              · omega
              · exact q.2 (hfc.mpr z)
            refine r_iinc C (lv' := [(5, vi (x + 1)), (0, .ref hr), (1, .ref h0), (2, .ref hd), (3, vi mn), (4, vi y)]) dX5_seek_132 5 rfl rfl rfl ?_
            refine r_goto C 78 dX5_seek_135 rfl ?_
            refine r_lv (lv' := [(0, .ref hr), (1, .ref h0), (2, .ref hd), (3, vi mn), (4, vi y), (5, vi (x + 1))]) [1, 2, 3, 4, 5, 0] rfl ?_
            exact ih_78 (x + 1, i2_100, w2_100, d2_100, o2_100, fo5, T5, Fp5) (show (0 ≤ (x + 1) ∧ (x + 1) ≤ w) ∧ (TOP (RSB w h (fun a b => D (ix a b)) X Y n mn y (x + 1)) T5 fo5) ∧ (FAP (RSB w h (fun a b => D (ix a b)) X Y n mn y (x + 1)) Fp5) from ⟨(by omega), (TOP_iff (RSB_n hnf) hT5), (FAP_iff (RSB_n hnf) hF5)⟩) (show w - (x + 1) < w - x from by omega)
          · skip
            have hok : FT P2_60 Q2_60 n w h x y ∧ i2_100 = sI (frF D P2_60 Q2_60 x y) n ∧ w2_100 = mxI (frF D P2_60 Q2_60 x y) n := by
              rcases p_100 with q | q
              · exact ⟨q.2.1, q.2.2.1, q.2.2.2.1⟩
              · omega
            have hft := hfc.mp hok.1
            have hkk : (y * 11 + x) % 11 = x ∧ (y * 11 + x) / 11 = y := by omega
            have hff : ∀ d : Int, 0 ≤ d → d < n → frF D P2_60 Q2_60 x y d = wF (fun a b => D (ix a b)) X Y mn (y * 11 + x) d := fun d a b => by unfold frF wF; rw [hPw d a b, hQw d a b, hkk.1, hkk.2]
            have hrk : rkP (fun a b => D (ix a b)) X Y n mn (y * 11 + x) = ((i2_100 * 100 + w2_100) * 24 + mn) * 121 + (y * 11 + x) := by unfold rkP; rw [hok.2.1, hok.2.2, sI_cong hff, mxI_cong (by omega) hff]
            have hrb := rkP_b (fr := (fun a b => D (ix a b))) (X := X) (Y := Y) (k := y * 11 + x) (way := mn) (n := n) (w := w) (h := h) (by omega) hfr (by omega) (by omega) (by rw [hkk.1, hkk.2]; exact hft)
            refine r_iload C dX5_seek_106 4 rfl ?_
            refine r_bipush C dX5_seek_108 rfl ?_
            refine r_imul C dX5_seek_110 ?_
            refine r_iload C dX5_seek_111 5 rfl ?_
            refine r_iadd C dX5_seek_113 ?_
            refine r_istore C (lv' := [(6, vi ((y * 11) + x)), (0, .ref hr), (1, .ref h0), (2, .ref hd), (3, vi mn), (4, vi y), (5, vi x)]) dX5_seek_114 rfl rfl ?_
            refine r_aload_n C dX5_seek_116 1 rfl ?_
            refine r_aload_n C dX5_seek_117 1 rfl ?_
            refine gf_X5_21 C dX5_seek_118 0 rfl rfl ?_
            refine r_iload_n C dX5_seek_121 4 rfl ?_
            refine r_iload C dX5_seek_122 0 rfl ?_
            refine k_Si C ks_X5_78 (fun sz => c_X4_of l g hrf i2_100 w2_100 d2_100 o2_100 mn ((y * 11) + x) sz) dX5_seek_124 rfl rfl rfl ⟨rfl, rfl⟩ [4] rfl rfl (fun _ => rfl) (ws' := fun u_ => [(hr, oB 4 [.ref hrs, .ref hrf, .ref hr1, vi fo5, .ref hr2, .ref hr3, .ref hr4, vi cc, vi 0]), (hrs, oB 8 [.ref hrsx, .ref hrsy, vi n, vi l2_60, vi r2_60, vi t2_60, vi b2_60]), (hrsx, aI g 10 P2_60), (hrsy, aI g 10 Q2_60), (hrf, oB 2 [vi i2_100, vi w2_100, vi d2_100, vi o2_100]), (hr1, aI g 10 T5), (hr2, aI g 121 Fp5), (h0, oB 6 [vi w, vi h, .ref h0r, .ref h0x, .ref h0y, vi n, vi m, vi c]), (h0x, aI g 10 X), (h0y, aI g 10 Y), (hd, oB 1 [.ref hdf, vi w, vi h]), (hdf, aI g 169 D)]) (fun _ => rfl) (fun r_124 u_ p_124 => ?_)
            have p_124 : r_124 = ((i2_100 * 100 + w2_100) * 24 + mn) * 121 + ((y * 11) + x) := p_124
            refine r_eq (y := (((i2_100 * 100 + w2_100) * 24 + mn) * 121 + (y * 11 + x))) p_124 ?_
            refine r_iload C dX5_seek_127 0 rfl ?_
            refine k_Vv C kv_X5_82 (fun sz => c_X5_enter l g hr hrs hrf hr1 hr2 hr3 hr4 fo5 cc 0 T5 Fp5 (RSB w h (fun a b => D (ix a b)) X Y n mn y x) (((i2_100 * 100 + w2_100) * 24 + mn) * 121 + (y * 11 + x)) ((y * 11) + x) hT5 hF5 (RSB_rng (by omega) hfr) (by rw [← hrk]; exact RSB_new (by omega) hfr (by omega) (by omega) hft) (by rw [← hrk]; exact hrb.1) (by rw [← hrk]; exact hrb.2.1) sz) dX5_seek_129 rfl rfl rfl ⟨rfl, rfl⟩ 0 4 rfl rfl rfl [0, 5, 6] rfl rfl (fun _ => rfl) (ws' := fun u_ => [(hr, oB 4 [.ref hrs, .ref hrf, .ref hr1, vi u_.2.1, .ref hr2, .ref hr3, .ref hr4, vi cc, vi 0]), (hrs, oB 8 [.ref hrsx, .ref hrsy, vi n, vi l2_60, vi r2_60, vi t2_60, vi b2_60]), (hrsx, aI g 10 P2_60), (hrsy, aI g 10 Q2_60), (hrf, oB 2 [vi i2_100, vi w2_100, vi d2_100, vi o2_100]), (hr1, aI g 10 u_.1), (hr2, aI g 121 u_.2.2), (h0, oB 6 [vi w, vi h, .ref h0r, .ref h0x, .ref h0y, vi n, vi m, vi c]), (h0x, aI g 10 X), (h0y, aI g 10 Y), (hd, oB 1 [.ref hdf, vi w, vi h]), (hdf, aI g 169 D)]) (fun _ => rfl) (fun u_ p_129 => ?_)
            obtain ⟨T2_129, n2_129, F2_129⟩ := u_
            refine r_at (ws' := [(hr, oB 4 [.ref hrs, .ref hrf, .ref hr1, vi n2_129, .ref hr2, .ref hr3, .ref hr4, vi cc, vi 0]), (hrs, oB 8 [.ref hrsx, .ref hrsy, vi n, vi l2_60, vi r2_60, vi t2_60, vi b2_60]), (hrsx, aI g 10 P2_60), (hrsy, aI g 10 Q2_60), (hrf, oB 2 [vi i2_100, vi w2_100, vi d2_100, vi o2_100]), (hr1, aI g 10 T2_129), (hr2, aI g 121 F2_129), (h0, oB 6 [vi w, vi h, .ref h0r, .ref h0x, .ref h0y, vi n, vi m, vi c]), (h0x, aI g 10 X), (h0y, aI g 10 Y), (hd, oB 1 [.ref hdf, vi w, vi h]), (hdf, aI g 169 D)]) (lv' := [(6, vi ((y * 11) + x)), (0, .ref hr), (1, .ref h0), (2, .ref hd), (3, vi mn), (4, vi y), (5, vi x)]) rfl rfl ?_
            have p_129 : TOP (fun q => (RSB w h (fun a b => D (ix a b)) X Y n mn y x) q ∨ q = (((i2_100 * 100 + w2_100) * 24 + mn) * 121 + (y * 11 + x))) T2_129 n2_129 ∧ FAP (fun q => (RSB w h (fun a b => D (ix a b)) X Y n mn y x) q ∨ q = (((i2_100 * 100 + w2_100) * 24 + mn) * 121 + (y * 11 + x))) F2_129 := p_129
            refine r_iinc C (lv' := [(5, vi (x + 1)), (6, vi ((y * 11) + x)), (0, .ref hr), (1, .ref h0), (2, .ref hd), (3, vi mn), (4, vi y)]) dX5_seek_132 6 rfl rfl rfl ?_
            refine r_goto C 78 dX5_seek_135 rfl ?_
            refine r_lv (lv' := [(0, .ref hr), (1, .ref h0), (2, .ref hd), (3, vi mn), (4, vi y), (5, vi (x + 1))]) [2, 3, 4, 5, 6, 0] rfl ?_
            exact ih_78 (x + 1, i2_100, w2_100, d2_100, o2_100, n2_129, T2_129, F2_129) (show (0 ≤ (x + 1) ∧ (x + 1) ≤ w) ∧ (TOP (RSB w h (fun a b => D (ix a b)) X Y n mn y (x + 1)) T2_129 n2_129) ∧ (FAP (RSB w h (fun a b => D (ix a b)) X Y n mn y (x + 1)) F2_129) from ⟨(by omega), (TOP_iff (RSB_s (by omega) (by omega) (by omega) hft) (hrk ▸ p_129.1)), (FAP_iff (RSB_s (by omega) (by omega) (by omega) hft) (hrk ▸ p_129.2))⟩) (show w - (x + 1) < w - x from by omega)
  · skip
    refine r_aload_n C dX5_seek_21 0 rfl ?_
    refine gf_X5_35 C dX5_seek_22 0 rfl rfl ?_
    refine r_iload_n C dX5_seek_25 3 rfl ?_
    refine r_ldc C (n := 1073741824) (in_r29 (List.mem_of_getElem? (i := 6) rfl)) rfl dX5_seek_26 ?_
    refine r_iast C (ws' := [(hr, oB 4 [.ref hrs, .ref hrf, .ref hr1, vi 0, .ref hr2, .ref hr3, .ref hr4, vi cc, vi 0]), (hrs, oB 8 [.ref hrsx, .ref hrsy, vi ns, vi lf, vi rt, vi tp, vi bt]), (hrsx, aI g 10 P), (hrsy, aI g 10 Q), (hrf, oB 2 [vi il, vi wo, vi wd, vi oe]), (hr1, aI g 10 T), (hr2, aI g 121 (zU F1 k 1073741824)), (h0, oB 6 [vi w, vi h, .ref h0r, .ref h0x, .ref h0y, vi n, vi m, vi c]), (h0x, aI g 10 X), (h0y, aI g 10 Y), (hd, oB 1 [.ref hdf, vi w, vi h]), (hdf, aI g 169 D)]) dX5_seek_28 6 rfl rfl (by omega) rfl ?_
    refine r_iinc C (lv' := [(3, vi (k + 1)), (0, .ref hr), (1, .ref h0), (2, .ref hd)]) dX5_seek_29 3 rfl rfl rfl ?_
    refine r_goto C 12 dX5_seek_32 rfl ?_
    refine r_lv (lv' := [(0, .ref hr), (1, .ref h0), (2, .ref hd), (3, vi (k + 1))]) [1, 2, 3, 0] rfl ?_
    exact ih_12 (k + 1, zU F1 k 1073741824) (show (0 ≤ (k + 1) ∧ (k + 1) ≤ 121) ∧ (∀ q : Int, 0 ≤ q → q < (k + 1) → (zU F1 k 1073741824) q = 1073741824) from ⟨(by omega), (zU_all (G := fun _ => 1073741824) hF1 rfl)⟩) (show 121 - (k + 1) < 121 - k from by omega)
set_option maxHeartbeats 1000000 in
set_option maxRecDepth 100000 in
theorem c_X3_keep (l : Launch) (g : Gx) (hh : Nat) (hhq : Nat) (hhb : Nat) (nx : Int) (hz : Int) (bz : Int → Int) (g0 : Nat) (g0r : Nat) (g0x : Nat) (g0y : Nat) (g1 : Nat) (g1r : Nat) (g1x : Nat) (g1y : Nat) (g2 : Nat) (g2r : Nat) (g2x : Nat) (g2y : Nat) (g3 : Nat) (g3r : Nat) (g3x : Nat) (g3y : Nat) (g4 : Nat) (g4r : Nat) (g4x : Nat) (g4y : Nat) (g5 : Nat) (g5r : Nat) (g5x : Nat) (g5y : Nat) (gs : Int → SCT) (h0 : Nat) (h0r : Nat) (h0x : Nat) (h0y : Nat) (w : Int) (h : Int) (n : Int) (m : Int) (c : Int) (f : Int → Int) (X : Int → Int) (Y : Int → Int) (bs : Int) (hnx : nx = 0 ∨ nx = 1 ∨ nx = 2 ∨ nx = 3 ∨ nx = 4 ∨ nx = 5) (hhz : 0 ≤ hz ∧ hz ≤ 6) (sz : Nat) : Met l yX3_keep (.code yX3_keep cX3_keep 3 none :: wsL_law) { frames := 1, cells := 0, slots := 0, locals := 22 } (PR g [.ref hh, .ref h0, vi bs] [(hh, oB 3 [.ref hhq, .ref hhb, vi nx, vi hz]), (hhq, aQ g 6 (q6 g0 g1 g2 g3 g4 g5)), (hhb, aI g 6 bz), (g0, oB 6 [vi ((gs 0).1), vi ((gs 0).2.1), .ref g0r, .ref g0x, .ref g0y, vi ((gs 0).2.2.2.2.2.1), vi ((gs 0).2.2.2.2.2.2.1), vi ((gs 0).2.2.2.2.2.2.2)]), (g0r, aI g 11 ((gs 0).2.2.1)), (g0x, aI g 10 ((gs 0).2.2.2.1)), (g0y, aI g 10 ((gs 0).2.2.2.2.1)), (g1, oB 6 [vi ((gs 1).1), vi ((gs 1).2.1), .ref g1r, .ref g1x, .ref g1y, vi ((gs 1).2.2.2.2.2.1), vi ((gs 1).2.2.2.2.2.2.1), vi ((gs 1).2.2.2.2.2.2.2)]), (g1r, aI g 11 ((gs 1).2.2.1)), (g1x, aI g 10 ((gs 1).2.2.2.1)), (g1y, aI g 10 ((gs 1).2.2.2.2.1)), (g2, oB 6 [vi ((gs 2).1), vi ((gs 2).2.1), .ref g2r, .ref g2x, .ref g2y, vi ((gs 2).2.2.2.2.2.1), vi ((gs 2).2.2.2.2.2.2.1), vi ((gs 2).2.2.2.2.2.2.2)]), (g2r, aI g 11 ((gs 2).2.2.1)), (g2x, aI g 10 ((gs 2).2.2.2.1)), (g2y, aI g 10 ((gs 2).2.2.2.2.1)), (g3, oB 6 [vi ((gs 3).1), vi ((gs 3).2.1), .ref g3r, .ref g3x, .ref g3y, vi ((gs 3).2.2.2.2.2.1), vi ((gs 3).2.2.2.2.2.2.1), vi ((gs 3).2.2.2.2.2.2.2)]), (g3r, aI g 11 ((gs 3).2.2.1)), (g3x, aI g 10 ((gs 3).2.2.2.1)), (g3y, aI g 10 ((gs 3).2.2.2.2.1)), (g4, oB 6 [vi ((gs 4).1), vi ((gs 4).2.1), .ref g4r, .ref g4x, .ref g4y, vi ((gs 4).2.2.2.2.2.1), vi ((gs 4).2.2.2.2.2.2.1), vi ((gs 4).2.2.2.2.2.2.2)]), (g4r, aI g 11 ((gs 4).2.2.1)), (g4x, aI g 10 ((gs 4).2.2.2.1)), (g4y, aI g 10 ((gs 4).2.2.2.2.1)), (g5, oB 6 [vi ((gs 5).1), vi ((gs 5).2.1), .ref g5r, .ref g5x, .ref g5y, vi ((gs 5).2.2.2.2.2.1), vi ((gs 5).2.2.2.2.2.2.1), vi ((gs 5).2.2.2.2.2.2.2)]), (g5r, aI g 11 ((gs 5).2.2.1)), (g5x, aI g 10 ((gs 5).2.2.2.1)), (g5y, aI g 10 ((gs 5).2.2.2.2.1)), (h0, oB 6 [vi w, vi h, .ref h0r, .ref h0x, .ref h0y, vi n, vi m, vi c]), (h0r, aI g 11 f), (h0x, aI g 10 X), (h0y, aI g 10 Y)] sz) (PV (S := Unit) g (fun u_ => True) (fun u_ => [(hh, oB 3 [.ref hhq, .ref hhb, vi ((nx + 1) % 6), vi (min (hz + 1) 6)]), (hhq, aQ g 6 (q6 g0 g1 g2 g3 g4 g5)), (hhb, aI g 6 (zU bz nx bs)), (g0, oB 6 [vi (((upS gs nx (w, h, f, X, Y, n, m, c)) 0).1), vi (((upS gs nx (w, h, f, X, Y, n, m, c)) 0).2.1), .ref g0r, .ref g0x, .ref g0y, vi (((upS gs nx (w, h, f, X, Y, n, m, c)) 0).2.2.2.2.2.1), vi (((upS gs nx (w, h, f, X, Y, n, m, c)) 0).2.2.2.2.2.2.1), vi (((upS gs nx (w, h, f, X, Y, n, m, c)) 0).2.2.2.2.2.2.2)]), (g0r, aI g 11 (((upS gs nx (w, h, f, X, Y, n, m, c)) 0).2.2.1)), (g0x, aI g 10 (((upS gs nx (w, h, f, X, Y, n, m, c)) 0).2.2.2.1)), (g0y, aI g 10 (((upS gs nx (w, h, f, X, Y, n, m, c)) 0).2.2.2.2.1)), (g1, oB 6 [vi (((upS gs nx (w, h, f, X, Y, n, m, c)) 1).1), vi (((upS gs nx (w, h, f, X, Y, n, m, c)) 1).2.1), .ref g1r, .ref g1x, .ref g1y, vi (((upS gs nx (w, h, f, X, Y, n, m, c)) 1).2.2.2.2.2.1), vi (((upS gs nx (w, h, f, X, Y, n, m, c)) 1).2.2.2.2.2.2.1), vi (((upS gs nx (w, h, f, X, Y, n, m, c)) 1).2.2.2.2.2.2.2)]), (g1r, aI g 11 (((upS gs nx (w, h, f, X, Y, n, m, c)) 1).2.2.1)), (g1x, aI g 10 (((upS gs nx (w, h, f, X, Y, n, m, c)) 1).2.2.2.1)), (g1y, aI g 10 (((upS gs nx (w, h, f, X, Y, n, m, c)) 1).2.2.2.2.1)), (g2, oB 6 [vi (((upS gs nx (w, h, f, X, Y, n, m, c)) 2).1), vi (((upS gs nx (w, h, f, X, Y, n, m, c)) 2).2.1), .ref g2r, .ref g2x, .ref g2y, vi (((upS gs nx (w, h, f, X, Y, n, m, c)) 2).2.2.2.2.2.1), vi (((upS gs nx (w, h, f, X, Y, n, m, c)) 2).2.2.2.2.2.2.1), vi (((upS gs nx (w, h, f, X, Y, n, m, c)) 2).2.2.2.2.2.2.2)]), (g2r, aI g 11 (((upS gs nx (w, h, f, X, Y, n, m, c)) 2).2.2.1)), (g2x, aI g 10 (((upS gs nx (w, h, f, X, Y, n, m, c)) 2).2.2.2.1)), (g2y, aI g 10 (((upS gs nx (w, h, f, X, Y, n, m, c)) 2).2.2.2.2.1)), (g3, oB 6 [vi (((upS gs nx (w, h, f, X, Y, n, m, c)) 3).1), vi (((upS gs nx (w, h, f, X, Y, n, m, c)) 3).2.1), .ref g3r, .ref g3x, .ref g3y, vi (((upS gs nx (w, h, f, X, Y, n, m, c)) 3).2.2.2.2.2.1), vi (((upS gs nx (w, h, f, X, Y, n, m, c)) 3).2.2.2.2.2.2.1), vi (((upS gs nx (w, h, f, X, Y, n, m, c)) 3).2.2.2.2.2.2.2)]), (g3r, aI g 11 (((upS gs nx (w, h, f, X, Y, n, m, c)) 3).2.2.1)), (g3x, aI g 10 (((upS gs nx (w, h, f, X, Y, n, m, c)) 3).2.2.2.1)), (g3y, aI g 10 (((upS gs nx (w, h, f, X, Y, n, m, c)) 3).2.2.2.2.1)), (g4, oB 6 [vi (((upS gs nx (w, h, f, X, Y, n, m, c)) 4).1), vi (((upS gs nx (w, h, f, X, Y, n, m, c)) 4).2.1), .ref g4r, .ref g4x, .ref g4y, vi (((upS gs nx (w, h, f, X, Y, n, m, c)) 4).2.2.2.2.2.1), vi (((upS gs nx (w, h, f, X, Y, n, m, c)) 4).2.2.2.2.2.2.1), vi (((upS gs nx (w, h, f, X, Y, n, m, c)) 4).2.2.2.2.2.2.2)]), (g4r, aI g 11 (((upS gs nx (w, h, f, X, Y, n, m, c)) 4).2.2.1)), (g4x, aI g 10 (((upS gs nx (w, h, f, X, Y, n, m, c)) 4).2.2.2.1)), (g4y, aI g 10 (((upS gs nx (w, h, f, X, Y, n, m, c)) 4).2.2.2.2.1)), (g5, oB 6 [vi (((upS gs nx (w, h, f, X, Y, n, m, c)) 5).1), vi (((upS gs nx (w, h, f, X, Y, n, m, c)) 5).2.1), .ref g5r, .ref g5x, .ref g5y, vi (((upS gs nx (w, h, f, X, Y, n, m, c)) 5).2.2.2.2.2.1), vi (((upS gs nx (w, h, f, X, Y, n, m, c)) 5).2.2.2.2.2.2.1), vi (((upS gs nx (w, h, f, X, Y, n, m, c)) 5).2.2.2.2.2.2.2)]), (g5r, aI g 11 (((upS gs nx (w, h, f, X, Y, n, m, c)) 5).2.2.1)), (g5x, aI g 10 (((upS gs nx (w, h, f, X, Y, n, m, c)) 5).2.2.2.1)), (g5y, aI g 10 (((upS gs nx (w, h, f, X, Y, n, m, c)) 5).2.2.2.2.1)), (h0, oB 6 [vi w, vi h, .ref h0r, .ref h0x, .ref h0y, vi n, vi m, vi c]), (h0r, aI g 11 f), (h0x, aI g 10 X), (h0y, aI g 10 Y)]) [(hh, oB 3 [.ref hhq, .ref hhb, vi nx, vi hz]), (hhq, aQ g 6 (q6 g0 g1 g2 g3 g4 g5)), (hhb, aI g 6 bz), (g0, oB 6 [vi ((gs 0).1), vi ((gs 0).2.1), .ref g0r, .ref g0x, .ref g0y, vi ((gs 0).2.2.2.2.2.1), vi ((gs 0).2.2.2.2.2.2.1), vi ((gs 0).2.2.2.2.2.2.2)]), (g0r, aI g 11 ((gs 0).2.2.1)), (g0x, aI g 10 ((gs 0).2.2.2.1)), (g0y, aI g 10 ((gs 0).2.2.2.2.1)), (g1, oB 6 [vi ((gs 1).1), vi ((gs 1).2.1), .ref g1r, .ref g1x, .ref g1y, vi ((gs 1).2.2.2.2.2.1), vi ((gs 1).2.2.2.2.2.2.1), vi ((gs 1).2.2.2.2.2.2.2)]), (g1r, aI g 11 ((gs 1).2.2.1)), (g1x, aI g 10 ((gs 1).2.2.2.1)), (g1y, aI g 10 ((gs 1).2.2.2.2.1)), (g2, oB 6 [vi ((gs 2).1), vi ((gs 2).2.1), .ref g2r, .ref g2x, .ref g2y, vi ((gs 2).2.2.2.2.2.1), vi ((gs 2).2.2.2.2.2.2.1), vi ((gs 2).2.2.2.2.2.2.2)]), (g2r, aI g 11 ((gs 2).2.2.1)), (g2x, aI g 10 ((gs 2).2.2.2.1)), (g2y, aI g 10 ((gs 2).2.2.2.2.1)), (g3, oB 6 [vi ((gs 3).1), vi ((gs 3).2.1), .ref g3r, .ref g3x, .ref g3y, vi ((gs 3).2.2.2.2.2.1), vi ((gs 3).2.2.2.2.2.2.1), vi ((gs 3).2.2.2.2.2.2.2)]), (g3r, aI g 11 ((gs 3).2.2.1)), (g3x, aI g 10 ((gs 3).2.2.2.1)), (g3y, aI g 10 ((gs 3).2.2.2.2.1)), (g4, oB 6 [vi ((gs 4).1), vi ((gs 4).2.1), .ref g4r, .ref g4x, .ref g4y, vi ((gs 4).2.2.2.2.2.1), vi ((gs 4).2.2.2.2.2.2.1), vi ((gs 4).2.2.2.2.2.2.2)]), (g4r, aI g 11 ((gs 4).2.2.1)), (g4x, aI g 10 ((gs 4).2.2.2.1)), (g4y, aI g 10 ((gs 4).2.2.2.2.1)), (g5, oB 6 [vi ((gs 5).1), vi ((gs 5).2.1), .ref g5r, .ref g5x, .ref g5y, vi ((gs 5).2.2.2.2.2.1), vi ((gs 5).2.2.2.2.2.2.1), vi ((gs 5).2.2.2.2.2.2.2)]), (g5r, aI g 11 ((gs 5).2.2.1)), (g5x, aI g 10 ((gs 5).2.2.2.1)), (g5y, aI g 10 ((gs 5).2.2.2.2.1)), (h0, oB 6 [vi w, vi h, .ref h0r, .ref h0x, .ref h0y, vi n, vi m, vi c]), (h0r, aI g 11 f), (h0x, aI g 10 X), (h0y, aI g 10 Y)] sz) 0 0 (va_A [(hh, oB 3 [.ref hhq, .ref hhb, vi nx, vi hz]), (hhq, aQ g 6 (q6 g0 g1 g2 g3 g4 g5)), (hhb, aI g 6 bz), (g0, oB 6 [vi ((gs 0).1), vi ((gs 0).2.1), .ref g0r, .ref g0x, .ref g0y, vi ((gs 0).2.2.2.2.2.1), vi ((gs 0).2.2.2.2.2.2.1), vi ((gs 0).2.2.2.2.2.2.2)]), (g0r, aI g 11 ((gs 0).2.2.1)), (g0x, aI g 10 ((gs 0).2.2.2.1)), (g0y, aI g 10 ((gs 0).2.2.2.2.1)), (g1, oB 6 [vi ((gs 1).1), vi ((gs 1).2.1), .ref g1r, .ref g1x, .ref g1y, vi ((gs 1).2.2.2.2.2.1), vi ((gs 1).2.2.2.2.2.2.1), vi ((gs 1).2.2.2.2.2.2.2)]), (g1r, aI g 11 ((gs 1).2.2.1)), (g1x, aI g 10 ((gs 1).2.2.2.1)), (g1y, aI g 10 ((gs 1).2.2.2.2.1)), (g2, oB 6 [vi ((gs 2).1), vi ((gs 2).2.1), .ref g2r, .ref g2x, .ref g2y, vi ((gs 2).2.2.2.2.2.1), vi ((gs 2).2.2.2.2.2.2.1), vi ((gs 2).2.2.2.2.2.2.2)]), (g2r, aI g 11 ((gs 2).2.2.1)), (g2x, aI g 10 ((gs 2).2.2.2.1)), (g2y, aI g 10 ((gs 2).2.2.2.2.1)), (g3, oB 6 [vi ((gs 3).1), vi ((gs 3).2.1), .ref g3r, .ref g3x, .ref g3y, vi ((gs 3).2.2.2.2.2.1), vi ((gs 3).2.2.2.2.2.2.1), vi ((gs 3).2.2.2.2.2.2.2)]), (g3r, aI g 11 ((gs 3).2.2.1)), (g3x, aI g 10 ((gs 3).2.2.2.1)), (g3y, aI g 10 ((gs 3).2.2.2.2.1)), (g4, oB 6 [vi ((gs 4).1), vi ((gs 4).2.1), .ref g4r, .ref g4x, .ref g4y, vi ((gs 4).2.2.2.2.2.1), vi ((gs 4).2.2.2.2.2.2.1), vi ((gs 4).2.2.2.2.2.2.2)]), (g4r, aI g 11 ((gs 4).2.2.1)), (g4x, aI g 10 ((gs 4).2.2.2.1)), (g4y, aI g 10 ((gs 4).2.2.2.2.1)), (g5, oB 6 [vi ((gs 5).1), vi ((gs 5).2.1), .ref g5r, .ref g5x, .ref g5y, vi ((gs 5).2.2.2.2.2.1), vi ((gs 5).2.2.2.2.2.2.1), vi ((gs 5).2.2.2.2.2.2.2)]), (g5r, aI g 11 ((gs 5).2.2.1)), (g5x, aI g 10 ((gs 5).2.2.2.1)), (g5y, aI g 10 ((gs 5).2.2.2.2.1)), (h0, oB 6 [vi w, vi h, .ref h0r, .ref h0x, .ref h0y, vi n, vi m, vi c]), (h0r, aI g 11 f), (h0x, aI g 10 X), (h0y, aI g 10 Y)] sz) := by
  refine meet (own := RX3) rfl (plainFor_of_name (by decide +kernel)) rfl (fun p_ e_ s_ m_ args_ below_ meth_ c_ C hnm => ?_)
  refine r_at (ws' := [(hh, oB 3 [.ref hhq, .ref hhb, vi nx, vi hz]), (hhq, aQ g 6 (q6 g0 g1 g2 g3 g4 g5)), (hhb, aI g 6 bz), (g0, oB 6 [vi ((gs 0).1), vi ((gs 0).2.1), .ref g0r, .ref g0x, .ref g0y, vi ((gs 0).2.2.2.2.2.1), vi ((gs 0).2.2.2.2.2.2.1), vi ((gs 0).2.2.2.2.2.2.2)]), (g0r, aI g 11 ((gs 0).2.2.1)), (g0x, aI g 10 ((gs 0).2.2.2.1)), (g0y, aI g 10 ((gs 0).2.2.2.2.1)), (g1, oB 6 [vi ((gs 1).1), vi ((gs 1).2.1), .ref g1r, .ref g1x, .ref g1y, vi ((gs 1).2.2.2.2.2.1), vi ((gs 1).2.2.2.2.2.2.1), vi ((gs 1).2.2.2.2.2.2.2)]), (g1r, aI g 11 ((gs 1).2.2.1)), (g1x, aI g 10 ((gs 1).2.2.2.1)), (g1y, aI g 10 ((gs 1).2.2.2.2.1)), (g2, oB 6 [vi ((gs 2).1), vi ((gs 2).2.1), .ref g2r, .ref g2x, .ref g2y, vi ((gs 2).2.2.2.2.2.1), vi ((gs 2).2.2.2.2.2.2.1), vi ((gs 2).2.2.2.2.2.2.2)]), (g2r, aI g 11 ((gs 2).2.2.1)), (g2x, aI g 10 ((gs 2).2.2.2.1)), (g2y, aI g 10 ((gs 2).2.2.2.2.1)), (g3, oB 6 [vi ((gs 3).1), vi ((gs 3).2.1), .ref g3r, .ref g3x, .ref g3y, vi ((gs 3).2.2.2.2.2.1), vi ((gs 3).2.2.2.2.2.2.1), vi ((gs 3).2.2.2.2.2.2.2)]), (g3r, aI g 11 ((gs 3).2.2.1)), (g3x, aI g 10 ((gs 3).2.2.2.1)), (g3y, aI g 10 ((gs 3).2.2.2.2.1)), (g4, oB 6 [vi ((gs 4).1), vi ((gs 4).2.1), .ref g4r, .ref g4x, .ref g4y, vi ((gs 4).2.2.2.2.2.1), vi ((gs 4).2.2.2.2.2.2.1), vi ((gs 4).2.2.2.2.2.2.2)]), (g4r, aI g 11 ((gs 4).2.2.1)), (g4x, aI g 10 ((gs 4).2.2.2.1)), (g4y, aI g 10 ((gs 4).2.2.2.2.1)), (g5, oB 6 [vi ((gs 5).1), vi ((gs 5).2.1), .ref g5r, .ref g5x, .ref g5y, vi ((gs 5).2.2.2.2.2.1), vi ((gs 5).2.2.2.2.2.2.1), vi ((gs 5).2.2.2.2.2.2.2)]), (g5r, aI g 11 ((gs 5).2.2.1)), (g5x, aI g 10 ((gs 5).2.2.2.1)), (g5y, aI g 10 ((gs 5).2.2.2.2.1)), (h0, oB 6 [vi w, vi h, .ref h0r, .ref h0x, .ref h0y, vi n, vi m, vi c]), (h0r, aI g 11 f), (h0x, aI g 10 X), (h0y, aI g 10 Y)]) (lv' := [(0, .ref hh), (1, .ref h0), (2, vi bs)]) rfl rfl ?_
  rcases hnx with rfl | rfl | rfl | rfl | rfl | rfl
  · skip
    refine r_aload_n C dX3_keep_0 0 rfl ?_
    refine gf_X3_11 C dX3_keep_1 0 rfl rfl ?_
    refine r_aload_n C dX3_keep_4 0 rfl ?_
    refine gf_X3_21 C dX3_keep_5 0 rfl rfl ?_
    refine r_aald C (b := g0) dX3_keep_8 1 rfl rfl (by omega) rfl ?_
    refine r_aload_n C dX3_keep_9 1 rfl ?_
    refine m_Vv C kv_X3_29 (fun sz => c_X7_copyFrom l g g0 g0r g0x g0y ((gs 0).1) ((gs 0).2.1) ((gs 0).2.2.2.2.2.1) ((gs 0).2.2.2.2.2.2.1) ((gs 0).2.2.2.2.2.2.2) ((gs 0).2.2.1) ((gs 0).2.2.2.1) ((gs 0).2.2.2.2.1) h0 h0r h0x h0y w h n m c f X Y sz) dX3_keep_10 rfl rfl rfl ⟨rfl, rfl⟩ 3 6 rfl rfl rfl [false, false, false, true, true, true, true, false, false, false, false, false, false, false, false, false, false, false, false, false, false, false, false, false, false, false, false, true, true, true, true] rfl (fun _ => rfl) (ws' := fun u_ => [(hh, oB 3 [.ref hhq, .ref hhb, vi 0, vi hz]), (hhq, aQ g 6 (q6 g0 g1 g2 g3 g4 g5)), (hhb, aI g 6 bz), (g0, oB 6 [vi w, vi h, .ref g0r, .ref g0x, .ref g0y, vi n, vi m, vi c]), (g0r, aI g 11 f), (g0x, aI g 10 X), (g0y, aI g 10 Y), (g1, oB 6 [vi ((gs 1).1), vi ((gs 1).2.1), .ref g1r, .ref g1x, .ref g1y, vi ((gs 1).2.2.2.2.2.1), vi ((gs 1).2.2.2.2.2.2.1), vi ((gs 1).2.2.2.2.2.2.2)]), (g1r, aI g 11 ((gs 1).2.2.1)), (g1x, aI g 10 ((gs 1).2.2.2.1)), (g1y, aI g 10 ((gs 1).2.2.2.2.1)), (g2, oB 6 [vi ((gs 2).1), vi ((gs 2).2.1), .ref g2r, .ref g2x, .ref g2y, vi ((gs 2).2.2.2.2.2.1), vi ((gs 2).2.2.2.2.2.2.1), vi ((gs 2).2.2.2.2.2.2.2)]), (g2r, aI g 11 ((gs 2).2.2.1)), (g2x, aI g 10 ((gs 2).2.2.2.1)), (g2y, aI g 10 ((gs 2).2.2.2.2.1)), (g3, oB 6 [vi ((gs 3).1), vi ((gs 3).2.1), .ref g3r, .ref g3x, .ref g3y, vi ((gs 3).2.2.2.2.2.1), vi ((gs 3).2.2.2.2.2.2.1), vi ((gs 3).2.2.2.2.2.2.2)]), (g3r, aI g 11 ((gs 3).2.2.1)), (g3x, aI g 10 ((gs 3).2.2.2.1)), (g3y, aI g 10 ((gs 3).2.2.2.2.1)), (g4, oB 6 [vi ((gs 4).1), vi ((gs 4).2.1), .ref g4r, .ref g4x, .ref g4y, vi ((gs 4).2.2.2.2.2.1), vi ((gs 4).2.2.2.2.2.2.1), vi ((gs 4).2.2.2.2.2.2.2)]), (g4r, aI g 11 ((gs 4).2.2.1)), (g4x, aI g 10 ((gs 4).2.2.2.1)), (g4y, aI g 10 ((gs 4).2.2.2.2.1)), (g5, oB 6 [vi ((gs 5).1), vi ((gs 5).2.1), .ref g5r, .ref g5x, .ref g5y, vi ((gs 5).2.2.2.2.2.1), vi ((gs 5).2.2.2.2.2.2.1), vi ((gs 5).2.2.2.2.2.2.2)]), (g5r, aI g 11 ((gs 5).2.2.1)), (g5x, aI g 10 ((gs 5).2.2.2.1)), (g5y, aI g 10 ((gs 5).2.2.2.2.1)), (h0, oB 6 [vi w, vi h, .ref h0r, .ref h0x, .ref h0y, vi n, vi m, vi c]), (h0r, aI g 11 f), (h0x, aI g 10 X), (h0y, aI g 10 Y)]) (fun _ => rfl) (fun u_ p_10 => ?_)
    refine r_aload_n C dX3_keep_13 0 rfl ?_
    refine gf_X3_17 C dX3_keep_14 0 rfl rfl ?_
    refine r_aload_n C dX3_keep_17 0 rfl ?_
    refine gf_X3_21 C dX3_keep_18 0 rfl rfl ?_
    refine r_iload_n C dX3_keep_21 2 rfl ?_
    refine r_iast C (ws' := [(hh, oB 3 [.ref hhq, .ref hhb, vi 0, vi hz]), (hhq, aQ g 6 (q6 g0 g1 g2 g3 g4 g5)), (hhb, aI g 6 (zU bz 0 bs)), (g0, oB 6 [vi w, vi h, .ref g0r, .ref g0x, .ref g0y, vi n, vi m, vi c]), (g0r, aI g 11 f), (g0x, aI g 10 X), (g0y, aI g 10 Y), (g1, oB 6 [vi ((gs 1).1), vi ((gs 1).2.1), .ref g1r, .ref g1x, .ref g1y, vi ((gs 1).2.2.2.2.2.1), vi ((gs 1).2.2.2.2.2.2.1), vi ((gs 1).2.2.2.2.2.2.2)]), (g1r, aI g 11 ((gs 1).2.2.1)), (g1x, aI g 10 ((gs 1).2.2.2.1)), (g1y, aI g 10 ((gs 1).2.2.2.2.1)), (g2, oB 6 [vi ((gs 2).1), vi ((gs 2).2.1), .ref g2r, .ref g2x, .ref g2y, vi ((gs 2).2.2.2.2.2.1), vi ((gs 2).2.2.2.2.2.2.1), vi ((gs 2).2.2.2.2.2.2.2)]), (g2r, aI g 11 ((gs 2).2.2.1)), (g2x, aI g 10 ((gs 2).2.2.2.1)), (g2y, aI g 10 ((gs 2).2.2.2.2.1)), (g3, oB 6 [vi ((gs 3).1), vi ((gs 3).2.1), .ref g3r, .ref g3x, .ref g3y, vi ((gs 3).2.2.2.2.2.1), vi ((gs 3).2.2.2.2.2.2.1), vi ((gs 3).2.2.2.2.2.2.2)]), (g3r, aI g 11 ((gs 3).2.2.1)), (g3x, aI g 10 ((gs 3).2.2.2.1)), (g3y, aI g 10 ((gs 3).2.2.2.2.1)), (g4, oB 6 [vi ((gs 4).1), vi ((gs 4).2.1), .ref g4r, .ref g4x, .ref g4y, vi ((gs 4).2.2.2.2.2.1), vi ((gs 4).2.2.2.2.2.2.1), vi ((gs 4).2.2.2.2.2.2.2)]), (g4r, aI g 11 ((gs 4).2.2.1)), (g4x, aI g 10 ((gs 4).2.2.2.1)), (g4y, aI g 10 ((gs 4).2.2.2.2.1)), (g5, oB 6 [vi ((gs 5).1), vi ((gs 5).2.1), .ref g5r, .ref g5x, .ref g5y, vi ((gs 5).2.2.2.2.2.1), vi ((gs 5).2.2.2.2.2.2.1), vi ((gs 5).2.2.2.2.2.2.2)]), (g5r, aI g 11 ((gs 5).2.2.1)), (g5x, aI g 10 ((gs 5).2.2.2.1)), (g5y, aI g 10 ((gs 5).2.2.2.2.1)), (h0, oB 6 [vi w, vi h, .ref h0r, .ref h0x, .ref h0y, vi n, vi m, vi c]), (h0r, aI g 11 f), (h0x, aI g 10 X), (h0y, aI g 10 Y)]) dX3_keep_22 2 rfl rfl (by omega) rfl ?_
    refine r_aload_n C dX3_keep_23 0 rfl ?_
    refine r_aload_n C dX3_keep_24 0 rfl ?_
    refine gf_X3_21 C dX3_keep_25 0 rfl rfl ?_
    refine r_iconst C dX3_keep_28 ?_
    refine r_iadd C dX3_keep_29 ?_
    refine r_bipush C dX3_keep_30 rfl ?_
    refine r_irem C dX3_keep_32 (by omega) ?_
    refine pf_X3_21 C (ws' := [(hh, oB 3 [.ref hhq, .ref hhb, vi ((0 + 1) % 6), vi hz]), (hhq, aQ g 6 (q6 g0 g1 g2 g3 g4 g5)), (hhb, aI g 6 (zU bz 0 bs)), (g0, oB 6 [vi w, vi h, .ref g0r, .ref g0x, .ref g0y, vi n, vi m, vi c]), (g0r, aI g 11 f), (g0x, aI g 10 X), (g0y, aI g 10 Y), (g1, oB 6 [vi ((gs 1).1), vi ((gs 1).2.1), .ref g1r, .ref g1x, .ref g1y, vi ((gs 1).2.2.2.2.2.1), vi ((gs 1).2.2.2.2.2.2.1), vi ((gs 1).2.2.2.2.2.2.2)]), (g1r, aI g 11 ((gs 1).2.2.1)), (g1x, aI g 10 ((gs 1).2.2.2.1)), (g1y, aI g 10 ((gs 1).2.2.2.2.1)), (g2, oB 6 [vi ((gs 2).1), vi ((gs 2).2.1), .ref g2r, .ref g2x, .ref g2y, vi ((gs 2).2.2.2.2.2.1), vi ((gs 2).2.2.2.2.2.2.1), vi ((gs 2).2.2.2.2.2.2.2)]), (g2r, aI g 11 ((gs 2).2.2.1)), (g2x, aI g 10 ((gs 2).2.2.2.1)), (g2y, aI g 10 ((gs 2).2.2.2.2.1)), (g3, oB 6 [vi ((gs 3).1), vi ((gs 3).2.1), .ref g3r, .ref g3x, .ref g3y, vi ((gs 3).2.2.2.2.2.1), vi ((gs 3).2.2.2.2.2.2.1), vi ((gs 3).2.2.2.2.2.2.2)]), (g3r, aI g 11 ((gs 3).2.2.1)), (g3x, aI g 10 ((gs 3).2.2.2.1)), (g3y, aI g 10 ((gs 3).2.2.2.2.1)), (g4, oB 6 [vi ((gs 4).1), vi ((gs 4).2.1), .ref g4r, .ref g4x, .ref g4y, vi ((gs 4).2.2.2.2.2.1), vi ((gs 4).2.2.2.2.2.2.1), vi ((gs 4).2.2.2.2.2.2.2)]), (g4r, aI g 11 ((gs 4).2.2.1)), (g4x, aI g 10 ((gs 4).2.2.2.1)), (g4y, aI g 10 ((gs 4).2.2.2.2.1)), (g5, oB 6 [vi ((gs 5).1), vi ((gs 5).2.1), .ref g5r, .ref g5x, .ref g5y, vi ((gs 5).2.2.2.2.2.1), vi ((gs 5).2.2.2.2.2.2.1), vi ((gs 5).2.2.2.2.2.2.2)]), (g5r, aI g 11 ((gs 5).2.2.1)), (g5x, aI g 10 ((gs 5).2.2.2.1)), (g5y, aI g 10 ((gs 5).2.2.2.2.1)), (h0, oB 6 [vi w, vi h, .ref h0r, .ref h0x, .ref h0y, vi n, vi m, vi c]), (h0r, aI g 11 f), (h0x, aI g 10 X), (h0y, aI g 10 Y)]) dX3_keep_33 0 rfl (Nat.le_of_ble_eq_true rfl) rfl ?_
    refine r_aload_n C dX3_keep_36 0 rfl ?_
    refine r_aload_n C dX3_keep_37 0 rfl ?_
    refine gf_X3_25 C dX3_keep_38 0 rfl rfl ?_
    refine r_iconst C dX3_keep_41 ?_
    refine r_iadd C dX3_keep_42 ?_
    refine r_bipush C dX3_keep_43 rfl ?_
    refine r_mmin C (in_r17 (List.mem_of_getElem? (i := 1) rfl)) dX3_keep_45 ⟨rfl, rfl, rfl, rfl⟩ (by omega) ?_
    refine pf_X3_25 C (ws' := [(hh, oB 3 [.ref hhq, .ref hhb, vi ((0 + 1) % 6), vi (min (hz + 1) 6)]), (hhq, aQ g 6 (q6 g0 g1 g2 g3 g4 g5)), (hhb, aI g 6 (zU bz 0 bs)), (g0, oB 6 [vi w, vi h, .ref g0r, .ref g0x, .ref g0y, vi n, vi m, vi c]), (g0r, aI g 11 f), (g0x, aI g 10 X), (g0y, aI g 10 Y), (g1, oB 6 [vi ((gs 1).1), vi ((gs 1).2.1), .ref g1r, .ref g1x, .ref g1y, vi ((gs 1).2.2.2.2.2.1), vi ((gs 1).2.2.2.2.2.2.1), vi ((gs 1).2.2.2.2.2.2.2)]), (g1r, aI g 11 ((gs 1).2.2.1)), (g1x, aI g 10 ((gs 1).2.2.2.1)), (g1y, aI g 10 ((gs 1).2.2.2.2.1)), (g2, oB 6 [vi ((gs 2).1), vi ((gs 2).2.1), .ref g2r, .ref g2x, .ref g2y, vi ((gs 2).2.2.2.2.2.1), vi ((gs 2).2.2.2.2.2.2.1), vi ((gs 2).2.2.2.2.2.2.2)]), (g2r, aI g 11 ((gs 2).2.2.1)), (g2x, aI g 10 ((gs 2).2.2.2.1)), (g2y, aI g 10 ((gs 2).2.2.2.2.1)), (g3, oB 6 [vi ((gs 3).1), vi ((gs 3).2.1), .ref g3r, .ref g3x, .ref g3y, vi ((gs 3).2.2.2.2.2.1), vi ((gs 3).2.2.2.2.2.2.1), vi ((gs 3).2.2.2.2.2.2.2)]), (g3r, aI g 11 ((gs 3).2.2.1)), (g3x, aI g 10 ((gs 3).2.2.2.1)), (g3y, aI g 10 ((gs 3).2.2.2.2.1)), (g4, oB 6 [vi ((gs 4).1), vi ((gs 4).2.1), .ref g4r, .ref g4x, .ref g4y, vi ((gs 4).2.2.2.2.2.1), vi ((gs 4).2.2.2.2.2.2.1), vi ((gs 4).2.2.2.2.2.2.2)]), (g4r, aI g 11 ((gs 4).2.2.1)), (g4x, aI g 10 ((gs 4).2.2.2.1)), (g4y, aI g 10 ((gs 4).2.2.2.2.1)), (g5, oB 6 [vi ((gs 5).1), vi ((gs 5).2.1), .ref g5r, .ref g5x, .ref g5y, vi ((gs 5).2.2.2.2.2.1), vi ((gs 5).2.2.2.2.2.2.1), vi ((gs 5).2.2.2.2.2.2.2)]), (g5r, aI g 11 ((gs 5).2.2.1)), (g5x, aI g 10 ((gs 5).2.2.2.1)), (g5y, aI g 10 ((gs 5).2.2.2.2.1)), (h0, oB 6 [vi w, vi h, .ref h0r, .ref h0x, .ref h0y, vi n, vi m, vi c]), (h0r, aI g 11 f), (h0x, aI g 10 X), (h0y, aI g 10 Y)]) dX3_keep_48 0 rfl (Nat.le_of_ble_eq_true rfl) rfl ?_
    exact e_v C () dX3_keep_51 (trivial) rfl
  · skip
    refine r_aload_n C dX3_keep_0 0 rfl ?_
    refine gf_X3_11 C dX3_keep_1 0 rfl rfl ?_
    refine r_aload_n C dX3_keep_4 0 rfl ?_
    refine gf_X3_21 C dX3_keep_5 0 rfl rfl ?_
    refine r_aald C (b := g1) dX3_keep_8 1 rfl rfl (by omega) rfl ?_
    refine r_aload_n C dX3_keep_9 1 rfl ?_
    refine m_Vv C kv_X3_29 (fun sz => c_X7_copyFrom l g g1 g1r g1x g1y ((gs 1).1) ((gs 1).2.1) ((gs 1).2.2.2.2.2.1) ((gs 1).2.2.2.2.2.2.1) ((gs 1).2.2.2.2.2.2.2) ((gs 1).2.2.1) ((gs 1).2.2.2.1) ((gs 1).2.2.2.2.1) h0 h0r h0x h0y w h n m c f X Y sz) dX3_keep_10 rfl rfl rfl ⟨rfl, rfl⟩ 7 6 rfl rfl rfl [false, false, false, false, false, false, false, true, true, true, true, false, false, false, false, false, false, false, false, false, false, false, false, false, false, false, false, true, true, true, true] rfl (fun _ => rfl) (ws' := fun u_ => [(hh, oB 3 [.ref hhq, .ref hhb, vi 1, vi hz]), (hhq, aQ g 6 (q6 g0 g1 g2 g3 g4 g5)), (hhb, aI g 6 bz), (g0, oB 6 [vi ((gs 0).1), vi ((gs 0).2.1), .ref g0r, .ref g0x, .ref g0y, vi ((gs 0).2.2.2.2.2.1), vi ((gs 0).2.2.2.2.2.2.1), vi ((gs 0).2.2.2.2.2.2.2)]), (g0r, aI g 11 ((gs 0).2.2.1)), (g0x, aI g 10 ((gs 0).2.2.2.1)), (g0y, aI g 10 ((gs 0).2.2.2.2.1)), (g1, oB 6 [vi w, vi h, .ref g1r, .ref g1x, .ref g1y, vi n, vi m, vi c]), (g1r, aI g 11 f), (g1x, aI g 10 X), (g1y, aI g 10 Y), (g2, oB 6 [vi ((gs 2).1), vi ((gs 2).2.1), .ref g2r, .ref g2x, .ref g2y, vi ((gs 2).2.2.2.2.2.1), vi ((gs 2).2.2.2.2.2.2.1), vi ((gs 2).2.2.2.2.2.2.2)]), (g2r, aI g 11 ((gs 2).2.2.1)), (g2x, aI g 10 ((gs 2).2.2.2.1)), (g2y, aI g 10 ((gs 2).2.2.2.2.1)), (g3, oB 6 [vi ((gs 3).1), vi ((gs 3).2.1), .ref g3r, .ref g3x, .ref g3y, vi ((gs 3).2.2.2.2.2.1), vi ((gs 3).2.2.2.2.2.2.1), vi ((gs 3).2.2.2.2.2.2.2)]), (g3r, aI g 11 ((gs 3).2.2.1)), (g3x, aI g 10 ((gs 3).2.2.2.1)), (g3y, aI g 10 ((gs 3).2.2.2.2.1)), (g4, oB 6 [vi ((gs 4).1), vi ((gs 4).2.1), .ref g4r, .ref g4x, .ref g4y, vi ((gs 4).2.2.2.2.2.1), vi ((gs 4).2.2.2.2.2.2.1), vi ((gs 4).2.2.2.2.2.2.2)]), (g4r, aI g 11 ((gs 4).2.2.1)), (g4x, aI g 10 ((gs 4).2.2.2.1)), (g4y, aI g 10 ((gs 4).2.2.2.2.1)), (g5, oB 6 [vi ((gs 5).1), vi ((gs 5).2.1), .ref g5r, .ref g5x, .ref g5y, vi ((gs 5).2.2.2.2.2.1), vi ((gs 5).2.2.2.2.2.2.1), vi ((gs 5).2.2.2.2.2.2.2)]), (g5r, aI g 11 ((gs 5).2.2.1)), (g5x, aI g 10 ((gs 5).2.2.2.1)), (g5y, aI g 10 ((gs 5).2.2.2.2.1)), (h0, oB 6 [vi w, vi h, .ref h0r, .ref h0x, .ref h0y, vi n, vi m, vi c]), (h0r, aI g 11 f), (h0x, aI g 10 X), (h0y, aI g 10 Y)]) (fun _ => rfl) (fun u_ p_10 => ?_)
    refine r_aload_n C dX3_keep_13 0 rfl ?_
    refine gf_X3_17 C dX3_keep_14 0 rfl rfl ?_
    refine r_aload_n C dX3_keep_17 0 rfl ?_
    refine gf_X3_21 C dX3_keep_18 0 rfl rfl ?_
    refine r_iload_n C dX3_keep_21 2 rfl ?_
    refine r_iast C (ws' := [(hh, oB 3 [.ref hhq, .ref hhb, vi 1, vi hz]), (hhq, aQ g 6 (q6 g0 g1 g2 g3 g4 g5)), (hhb, aI g 6 (zU bz 1 bs)), (g0, oB 6 [vi ((gs 0).1), vi ((gs 0).2.1), .ref g0r, .ref g0x, .ref g0y, vi ((gs 0).2.2.2.2.2.1), vi ((gs 0).2.2.2.2.2.2.1), vi ((gs 0).2.2.2.2.2.2.2)]), (g0r, aI g 11 ((gs 0).2.2.1)), (g0x, aI g 10 ((gs 0).2.2.2.1)), (g0y, aI g 10 ((gs 0).2.2.2.2.1)), (g1, oB 6 [vi w, vi h, .ref g1r, .ref g1x, .ref g1y, vi n, vi m, vi c]), (g1r, aI g 11 f), (g1x, aI g 10 X), (g1y, aI g 10 Y), (g2, oB 6 [vi ((gs 2).1), vi ((gs 2).2.1), .ref g2r, .ref g2x, .ref g2y, vi ((gs 2).2.2.2.2.2.1), vi ((gs 2).2.2.2.2.2.2.1), vi ((gs 2).2.2.2.2.2.2.2)]), (g2r, aI g 11 ((gs 2).2.2.1)), (g2x, aI g 10 ((gs 2).2.2.2.1)), (g2y, aI g 10 ((gs 2).2.2.2.2.1)), (g3, oB 6 [vi ((gs 3).1), vi ((gs 3).2.1), .ref g3r, .ref g3x, .ref g3y, vi ((gs 3).2.2.2.2.2.1), vi ((gs 3).2.2.2.2.2.2.1), vi ((gs 3).2.2.2.2.2.2.2)]), (g3r, aI g 11 ((gs 3).2.2.1)), (g3x, aI g 10 ((gs 3).2.2.2.1)), (g3y, aI g 10 ((gs 3).2.2.2.2.1)), (g4, oB 6 [vi ((gs 4).1), vi ((gs 4).2.1), .ref g4r, .ref g4x, .ref g4y, vi ((gs 4).2.2.2.2.2.1), vi ((gs 4).2.2.2.2.2.2.1), vi ((gs 4).2.2.2.2.2.2.2)]), (g4r, aI g 11 ((gs 4).2.2.1)), (g4x, aI g 10 ((gs 4).2.2.2.1)), (g4y, aI g 10 ((gs 4).2.2.2.2.1)), (g5, oB 6 [vi ((gs 5).1), vi ((gs 5).2.1), .ref g5r, .ref g5x, .ref g5y, vi ((gs 5).2.2.2.2.2.1), vi ((gs 5).2.2.2.2.2.2.1), vi ((gs 5).2.2.2.2.2.2.2)]), (g5r, aI g 11 ((gs 5).2.2.1)), (g5x, aI g 10 ((gs 5).2.2.2.1)), (g5y, aI g 10 ((gs 5).2.2.2.2.1)), (h0, oB 6 [vi w, vi h, .ref h0r, .ref h0x, .ref h0y, vi n, vi m, vi c]), (h0r, aI g 11 f), (h0x, aI g 10 X), (h0y, aI g 10 Y)]) dX3_keep_22 2 rfl rfl (by omega) rfl ?_
    refine r_aload_n C dX3_keep_23 0 rfl ?_
    refine r_aload_n C dX3_keep_24 0 rfl ?_
    refine gf_X3_21 C dX3_keep_25 0 rfl rfl ?_
    refine r_iconst C dX3_keep_28 ?_
    refine r_iadd C dX3_keep_29 ?_
    refine r_bipush C dX3_keep_30 rfl ?_
    refine r_irem C dX3_keep_32 (by omega) ?_
    refine pf_X3_21 C (ws' := [(hh, oB 3 [.ref hhq, .ref hhb, vi ((1 + 1) % 6), vi hz]), (hhq, aQ g 6 (q6 g0 g1 g2 g3 g4 g5)), (hhb, aI g 6 (zU bz 1 bs)), (g0, oB 6 [vi ((gs 0).1), vi ((gs 0).2.1), .ref g0r, .ref g0x, .ref g0y, vi ((gs 0).2.2.2.2.2.1), vi ((gs 0).2.2.2.2.2.2.1), vi ((gs 0).2.2.2.2.2.2.2)]), (g0r, aI g 11 ((gs 0).2.2.1)), (g0x, aI g 10 ((gs 0).2.2.2.1)), (g0y, aI g 10 ((gs 0).2.2.2.2.1)), (g1, oB 6 [vi w, vi h, .ref g1r, .ref g1x, .ref g1y, vi n, vi m, vi c]), (g1r, aI g 11 f), (g1x, aI g 10 X), (g1y, aI g 10 Y), (g2, oB 6 [vi ((gs 2).1), vi ((gs 2).2.1), .ref g2r, .ref g2x, .ref g2y, vi ((gs 2).2.2.2.2.2.1), vi ((gs 2).2.2.2.2.2.2.1), vi ((gs 2).2.2.2.2.2.2.2)]), (g2r, aI g 11 ((gs 2).2.2.1)), (g2x, aI g 10 ((gs 2).2.2.2.1)), (g2y, aI g 10 ((gs 2).2.2.2.2.1)), (g3, oB 6 [vi ((gs 3).1), vi ((gs 3).2.1), .ref g3r, .ref g3x, .ref g3y, vi ((gs 3).2.2.2.2.2.1), vi ((gs 3).2.2.2.2.2.2.1), vi ((gs 3).2.2.2.2.2.2.2)]), (g3r, aI g 11 ((gs 3).2.2.1)), (g3x, aI g 10 ((gs 3).2.2.2.1)), (g3y, aI g 10 ((gs 3).2.2.2.2.1)), (g4, oB 6 [vi ((gs 4).1), vi ((gs 4).2.1), .ref g4r, .ref g4x, .ref g4y, vi ((gs 4).2.2.2.2.2.1), vi ((gs 4).2.2.2.2.2.2.1), vi ((gs 4).2.2.2.2.2.2.2)]), (g4r, aI g 11 ((gs 4).2.2.1)), (g4x, aI g 10 ((gs 4).2.2.2.1)), (g4y, aI g 10 ((gs 4).2.2.2.2.1)), (g5, oB 6 [vi ((gs 5).1), vi ((gs 5).2.1), .ref g5r, .ref g5x, .ref g5y, vi ((gs 5).2.2.2.2.2.1), vi ((gs 5).2.2.2.2.2.2.1), vi ((gs 5).2.2.2.2.2.2.2)]), (g5r, aI g 11 ((gs 5).2.2.1)), (g5x, aI g 10 ((gs 5).2.2.2.1)), (g5y, aI g 10 ((gs 5).2.2.2.2.1)), (h0, oB 6 [vi w, vi h, .ref h0r, .ref h0x, .ref h0y, vi n, vi m, vi c]), (h0r, aI g 11 f), (h0x, aI g 10 X), (h0y, aI g 10 Y)]) dX3_keep_33 0 rfl (Nat.le_of_ble_eq_true rfl) rfl ?_
    refine r_aload_n C dX3_keep_36 0 rfl ?_
    refine r_aload_n C dX3_keep_37 0 rfl ?_
    refine gf_X3_25 C dX3_keep_38 0 rfl rfl ?_
    refine r_iconst C dX3_keep_41 ?_
    refine r_iadd C dX3_keep_42 ?_
    refine r_bipush C dX3_keep_43 rfl ?_
    refine r_mmin C (in_r17 (List.mem_of_getElem? (i := 1) rfl)) dX3_keep_45 ⟨rfl, rfl, rfl, rfl⟩ (by omega) ?_
    refine pf_X3_25 C (ws' := [(hh, oB 3 [.ref hhq, .ref hhb, vi ((1 + 1) % 6), vi (min (hz + 1) 6)]), (hhq, aQ g 6 (q6 g0 g1 g2 g3 g4 g5)), (hhb, aI g 6 (zU bz 1 bs)), (g0, oB 6 [vi ((gs 0).1), vi ((gs 0).2.1), .ref g0r, .ref g0x, .ref g0y, vi ((gs 0).2.2.2.2.2.1), vi ((gs 0).2.2.2.2.2.2.1), vi ((gs 0).2.2.2.2.2.2.2)]), (g0r, aI g 11 ((gs 0).2.2.1)), (g0x, aI g 10 ((gs 0).2.2.2.1)), (g0y, aI g 10 ((gs 0).2.2.2.2.1)), (g1, oB 6 [vi w, vi h, .ref g1r, .ref g1x, .ref g1y, vi n, vi m, vi c]), (g1r, aI g 11 f), (g1x, aI g 10 X), (g1y, aI g 10 Y), (g2, oB 6 [vi ((gs 2).1), vi ((gs 2).2.1), .ref g2r, .ref g2x, .ref g2y, vi ((gs 2).2.2.2.2.2.1), vi ((gs 2).2.2.2.2.2.2.1), vi ((gs 2).2.2.2.2.2.2.2)]), (g2r, aI g 11 ((gs 2).2.2.1)), (g2x, aI g 10 ((gs 2).2.2.2.1)), (g2y, aI g 10 ((gs 2).2.2.2.2.1)), (g3, oB 6 [vi ((gs 3).1), vi ((gs 3).2.1), .ref g3r, .ref g3x, .ref g3y, vi ((gs 3).2.2.2.2.2.1), vi ((gs 3).2.2.2.2.2.2.1), vi ((gs 3).2.2.2.2.2.2.2)]), (g3r, aI g 11 ((gs 3).2.2.1)), (g3x, aI g 10 ((gs 3).2.2.2.1)), (g3y, aI g 10 ((gs 3).2.2.2.2.1)), (g4, oB 6 [vi ((gs 4).1), vi ((gs 4).2.1), .ref g4r, .ref g4x, .ref g4y, vi ((gs 4).2.2.2.2.2.1), vi ((gs 4).2.2.2.2.2.2.1), vi ((gs 4).2.2.2.2.2.2.2)]), (g4r, aI g 11 ((gs 4).2.2.1)), (g4x, aI g 10 ((gs 4).2.2.2.1)), (g4y, aI g 10 ((gs 4).2.2.2.2.1)), (g5, oB 6 [vi ((gs 5).1), vi ((gs 5).2.1), .ref g5r, .ref g5x, .ref g5y, vi ((gs 5).2.2.2.2.2.1), vi ((gs 5).2.2.2.2.2.2.1), vi ((gs 5).2.2.2.2.2.2.2)]), (g5r, aI g 11 ((gs 5).2.2.1)), (g5x, aI g 10 ((gs 5).2.2.2.1)), (g5y, aI g 10 ((gs 5).2.2.2.2.1)), (h0, oB 6 [vi w, vi h, .ref h0r, .ref h0x, .ref h0y, vi n, vi m, vi c]), (h0r, aI g 11 f), (h0x, aI g 10 X), (h0y, aI g 10 Y)]) dX3_keep_48 0 rfl (Nat.le_of_ble_eq_true rfl) rfl ?_
    exact e_v C () dX3_keep_51 (trivial) rfl
  · skip
    refine r_aload_n C dX3_keep_0 0 rfl ?_
    refine gf_X3_11 C dX3_keep_1 0 rfl rfl ?_
    refine r_aload_n C dX3_keep_4 0 rfl ?_
    refine gf_X3_21 C dX3_keep_5 0 rfl rfl ?_
    refine r_aald C (b := g2) dX3_keep_8 1 rfl rfl (by omega) rfl ?_
    refine r_aload_n C dX3_keep_9 1 rfl ?_
    refine m_Vv C kv_X3_29 (fun sz => c_X7_copyFrom l g g2 g2r g2x g2y ((gs 2).1) ((gs 2).2.1) ((gs 2).2.2.2.2.2.1) ((gs 2).2.2.2.2.2.2.1) ((gs 2).2.2.2.2.2.2.2) ((gs 2).2.2.1) ((gs 2).2.2.2.1) ((gs 2).2.2.2.2.1) h0 h0r h0x h0y w h n m c f X Y sz) dX3_keep_10 rfl rfl rfl ⟨rfl, rfl⟩ 11 6 rfl rfl rfl [false, false, false, false, false, false, false, false, false, false, false, true, true, true, true, false, false, false, false, false, false, false, false, false, false, false, false, true, true, true, true] rfl (fun _ => rfl) (ws' := fun u_ => [(hh, oB 3 [.ref hhq, .ref hhb, vi 2, vi hz]), (hhq, aQ g 6 (q6 g0 g1 g2 g3 g4 g5)), (hhb, aI g 6 bz), (g0, oB 6 [vi ((gs 0).1), vi ((gs 0).2.1), .ref g0r, .ref g0x, .ref g0y, vi ((gs 0).2.2.2.2.2.1), vi ((gs 0).2.2.2.2.2.2.1), vi ((gs 0).2.2.2.2.2.2.2)]), (g0r, aI g 11 ((gs 0).2.2.1)), (g0x, aI g 10 ((gs 0).2.2.2.1)), (g0y, aI g 10 ((gs 0).2.2.2.2.1)), (g1, oB 6 [vi ((gs 1).1), vi ((gs 1).2.1), .ref g1r, .ref g1x, .ref g1y, vi ((gs 1).2.2.2.2.2.1), vi ((gs 1).2.2.2.2.2.2.1), vi ((gs 1).2.2.2.2.2.2.2)]), (g1r, aI g 11 ((gs 1).2.2.1)), (g1x, aI g 10 ((gs 1).2.2.2.1)), (g1y, aI g 10 ((gs 1).2.2.2.2.1)), (g2, oB 6 [vi w, vi h, .ref g2r, .ref g2x, .ref g2y, vi n, vi m, vi c]), (g2r, aI g 11 f), (g2x, aI g 10 X), (g2y, aI g 10 Y), (g3, oB 6 [vi ((gs 3).1), vi ((gs 3).2.1), .ref g3r, .ref g3x, .ref g3y, vi ((gs 3).2.2.2.2.2.1), vi ((gs 3).2.2.2.2.2.2.1), vi ((gs 3).2.2.2.2.2.2.2)]), (g3r, aI g 11 ((gs 3).2.2.1)), (g3x, aI g 10 ((gs 3).2.2.2.1)), (g3y, aI g 10 ((gs 3).2.2.2.2.1)), (g4, oB 6 [vi ((gs 4).1), vi ((gs 4).2.1), .ref g4r, .ref g4x, .ref g4y, vi ((gs 4).2.2.2.2.2.1), vi ((gs 4).2.2.2.2.2.2.1), vi ((gs 4).2.2.2.2.2.2.2)]), (g4r, aI g 11 ((gs 4).2.2.1)), (g4x, aI g 10 ((gs 4).2.2.2.1)), (g4y, aI g 10 ((gs 4).2.2.2.2.1)), (g5, oB 6 [vi ((gs 5).1), vi ((gs 5).2.1), .ref g5r, .ref g5x, .ref g5y, vi ((gs 5).2.2.2.2.2.1), vi ((gs 5).2.2.2.2.2.2.1), vi ((gs 5).2.2.2.2.2.2.2)]), (g5r, aI g 11 ((gs 5).2.2.1)), (g5x, aI g 10 ((gs 5).2.2.2.1)), (g5y, aI g 10 ((gs 5).2.2.2.2.1)), (h0, oB 6 [vi w, vi h, .ref h0r, .ref h0x, .ref h0y, vi n, vi m, vi c]), (h0r, aI g 11 f), (h0x, aI g 10 X), (h0y, aI g 10 Y)]) (fun _ => rfl) (fun u_ p_10 => ?_)
    refine r_aload_n C dX3_keep_13 0 rfl ?_
    refine gf_X3_17 C dX3_keep_14 0 rfl rfl ?_
    refine r_aload_n C dX3_keep_17 0 rfl ?_
    refine gf_X3_21 C dX3_keep_18 0 rfl rfl ?_
    refine r_iload_n C dX3_keep_21 2 rfl ?_
    refine r_iast C (ws' := [(hh, oB 3 [.ref hhq, .ref hhb, vi 2, vi hz]), (hhq, aQ g 6 (q6 g0 g1 g2 g3 g4 g5)), (hhb, aI g 6 (zU bz 2 bs)), (g0, oB 6 [vi ((gs 0).1), vi ((gs 0).2.1), .ref g0r, .ref g0x, .ref g0y, vi ((gs 0).2.2.2.2.2.1), vi ((gs 0).2.2.2.2.2.2.1), vi ((gs 0).2.2.2.2.2.2.2)]), (g0r, aI g 11 ((gs 0).2.2.1)), (g0x, aI g 10 ((gs 0).2.2.2.1)), (g0y, aI g 10 ((gs 0).2.2.2.2.1)), (g1, oB 6 [vi ((gs 1).1), vi ((gs 1).2.1), .ref g1r, .ref g1x, .ref g1y, vi ((gs 1).2.2.2.2.2.1), vi ((gs 1).2.2.2.2.2.2.1), vi ((gs 1).2.2.2.2.2.2.2)]), (g1r, aI g 11 ((gs 1).2.2.1)), (g1x, aI g 10 ((gs 1).2.2.2.1)), (g1y, aI g 10 ((gs 1).2.2.2.2.1)), (g2, oB 6 [vi w, vi h, .ref g2r, .ref g2x, .ref g2y, vi n, vi m, vi c]), (g2r, aI g 11 f), (g2x, aI g 10 X), (g2y, aI g 10 Y), (g3, oB 6 [vi ((gs 3).1), vi ((gs 3).2.1), .ref g3r, .ref g3x, .ref g3y, vi ((gs 3).2.2.2.2.2.1), vi ((gs 3).2.2.2.2.2.2.1), vi ((gs 3).2.2.2.2.2.2.2)]), (g3r, aI g 11 ((gs 3).2.2.1)), (g3x, aI g 10 ((gs 3).2.2.2.1)), (g3y, aI g 10 ((gs 3).2.2.2.2.1)), (g4, oB 6 [vi ((gs 4).1), vi ((gs 4).2.1), .ref g4r, .ref g4x, .ref g4y, vi ((gs 4).2.2.2.2.2.1), vi ((gs 4).2.2.2.2.2.2.1), vi ((gs 4).2.2.2.2.2.2.2)]), (g4r, aI g 11 ((gs 4).2.2.1)), (g4x, aI g 10 ((gs 4).2.2.2.1)), (g4y, aI g 10 ((gs 4).2.2.2.2.1)), (g5, oB 6 [vi ((gs 5).1), vi ((gs 5).2.1), .ref g5r, .ref g5x, .ref g5y, vi ((gs 5).2.2.2.2.2.1), vi ((gs 5).2.2.2.2.2.2.1), vi ((gs 5).2.2.2.2.2.2.2)]), (g5r, aI g 11 ((gs 5).2.2.1)), (g5x, aI g 10 ((gs 5).2.2.2.1)), (g5y, aI g 10 ((gs 5).2.2.2.2.1)), (h0, oB 6 [vi w, vi h, .ref h0r, .ref h0x, .ref h0y, vi n, vi m, vi c]), (h0r, aI g 11 f), (h0x, aI g 10 X), (h0y, aI g 10 Y)]) dX3_keep_22 2 rfl rfl (by omega) rfl ?_
    refine r_aload_n C dX3_keep_23 0 rfl ?_
    refine r_aload_n C dX3_keep_24 0 rfl ?_
    refine gf_X3_21 C dX3_keep_25 0 rfl rfl ?_
    refine r_iconst C dX3_keep_28 ?_
    refine r_iadd C dX3_keep_29 ?_
    refine r_bipush C dX3_keep_30 rfl ?_
    refine r_irem C dX3_keep_32 (by omega) ?_
    refine pf_X3_21 C (ws' := [(hh, oB 3 [.ref hhq, .ref hhb, vi ((2 + 1) % 6), vi hz]), (hhq, aQ g 6 (q6 g0 g1 g2 g3 g4 g5)), (hhb, aI g 6 (zU bz 2 bs)), (g0, oB 6 [vi ((gs 0).1), vi ((gs 0).2.1), .ref g0r, .ref g0x, .ref g0y, vi ((gs 0).2.2.2.2.2.1), vi ((gs 0).2.2.2.2.2.2.1), vi ((gs 0).2.2.2.2.2.2.2)]), (g0r, aI g 11 ((gs 0).2.2.1)), (g0x, aI g 10 ((gs 0).2.2.2.1)), (g0y, aI g 10 ((gs 0).2.2.2.2.1)), (g1, oB 6 [vi ((gs 1).1), vi ((gs 1).2.1), .ref g1r, .ref g1x, .ref g1y, vi ((gs 1).2.2.2.2.2.1), vi ((gs 1).2.2.2.2.2.2.1), vi ((gs 1).2.2.2.2.2.2.2)]), (g1r, aI g 11 ((gs 1).2.2.1)), (g1x, aI g 10 ((gs 1).2.2.2.1)), (g1y, aI g 10 ((gs 1).2.2.2.2.1)), (g2, oB 6 [vi w, vi h, .ref g2r, .ref g2x, .ref g2y, vi n, vi m, vi c]), (g2r, aI g 11 f), (g2x, aI g 10 X), (g2y, aI g 10 Y), (g3, oB 6 [vi ((gs 3).1), vi ((gs 3).2.1), .ref g3r, .ref g3x, .ref g3y, vi ((gs 3).2.2.2.2.2.1), vi ((gs 3).2.2.2.2.2.2.1), vi ((gs 3).2.2.2.2.2.2.2)]), (g3r, aI g 11 ((gs 3).2.2.1)), (g3x, aI g 10 ((gs 3).2.2.2.1)), (g3y, aI g 10 ((gs 3).2.2.2.2.1)), (g4, oB 6 [vi ((gs 4).1), vi ((gs 4).2.1), .ref g4r, .ref g4x, .ref g4y, vi ((gs 4).2.2.2.2.2.1), vi ((gs 4).2.2.2.2.2.2.1), vi ((gs 4).2.2.2.2.2.2.2)]), (g4r, aI g 11 ((gs 4).2.2.1)), (g4x, aI g 10 ((gs 4).2.2.2.1)), (g4y, aI g 10 ((gs 4).2.2.2.2.1)), (g5, oB 6 [vi ((gs 5).1), vi ((gs 5).2.1), .ref g5r, .ref g5x, .ref g5y, vi ((gs 5).2.2.2.2.2.1), vi ((gs 5).2.2.2.2.2.2.1), vi ((gs 5).2.2.2.2.2.2.2)]), (g5r, aI g 11 ((gs 5).2.2.1)), (g5x, aI g 10 ((gs 5).2.2.2.1)), (g5y, aI g 10 ((gs 5).2.2.2.2.1)), (h0, oB 6 [vi w, vi h, .ref h0r, .ref h0x, .ref h0y, vi n, vi m, vi c]), (h0r, aI g 11 f), (h0x, aI g 10 X), (h0y, aI g 10 Y)]) dX3_keep_33 0 rfl (Nat.le_of_ble_eq_true rfl) rfl ?_
    refine r_aload_n C dX3_keep_36 0 rfl ?_
    refine r_aload_n C dX3_keep_37 0 rfl ?_
    refine gf_X3_25 C dX3_keep_38 0 rfl rfl ?_
    refine r_iconst C dX3_keep_41 ?_
    refine r_iadd C dX3_keep_42 ?_
    refine r_bipush C dX3_keep_43 rfl ?_
    refine r_mmin C (in_r17 (List.mem_of_getElem? (i := 1) rfl)) dX3_keep_45 ⟨rfl, rfl, rfl, rfl⟩ (by omega) ?_
    refine pf_X3_25 C (ws' := [(hh, oB 3 [.ref hhq, .ref hhb, vi ((2 + 1) % 6), vi (min (hz + 1) 6)]), (hhq, aQ g 6 (q6 g0 g1 g2 g3 g4 g5)), (hhb, aI g 6 (zU bz 2 bs)), (g0, oB 6 [vi ((gs 0).1), vi ((gs 0).2.1), .ref g0r, .ref g0x, .ref g0y, vi ((gs 0).2.2.2.2.2.1), vi ((gs 0).2.2.2.2.2.2.1), vi ((gs 0).2.2.2.2.2.2.2)]), (g0r, aI g 11 ((gs 0).2.2.1)), (g0x, aI g 10 ((gs 0).2.2.2.1)), (g0y, aI g 10 ((gs 0).2.2.2.2.1)), (g1, oB 6 [vi ((gs 1).1), vi ((gs 1).2.1), .ref g1r, .ref g1x, .ref g1y, vi ((gs 1).2.2.2.2.2.1), vi ((gs 1).2.2.2.2.2.2.1), vi ((gs 1).2.2.2.2.2.2.2)]), (g1r, aI g 11 ((gs 1).2.2.1)), (g1x, aI g 10 ((gs 1).2.2.2.1)), (g1y, aI g 10 ((gs 1).2.2.2.2.1)), (g2, oB 6 [vi w, vi h, .ref g2r, .ref g2x, .ref g2y, vi n, vi m, vi c]), (g2r, aI g 11 f), (g2x, aI g 10 X), (g2y, aI g 10 Y), (g3, oB 6 [vi ((gs 3).1), vi ((gs 3).2.1), .ref g3r, .ref g3x, .ref g3y, vi ((gs 3).2.2.2.2.2.1), vi ((gs 3).2.2.2.2.2.2.1), vi ((gs 3).2.2.2.2.2.2.2)]), (g3r, aI g 11 ((gs 3).2.2.1)), (g3x, aI g 10 ((gs 3).2.2.2.1)), (g3y, aI g 10 ((gs 3).2.2.2.2.1)), (g4, oB 6 [vi ((gs 4).1), vi ((gs 4).2.1), .ref g4r, .ref g4x, .ref g4y, vi ((gs 4).2.2.2.2.2.1), vi ((gs 4).2.2.2.2.2.2.1), vi ((gs 4).2.2.2.2.2.2.2)]), (g4r, aI g 11 ((gs 4).2.2.1)), (g4x, aI g 10 ((gs 4).2.2.2.1)), (g4y, aI g 10 ((gs 4).2.2.2.2.1)), (g5, oB 6 [vi ((gs 5).1), vi ((gs 5).2.1), .ref g5r, .ref g5x, .ref g5y, vi ((gs 5).2.2.2.2.2.1), vi ((gs 5).2.2.2.2.2.2.1), vi ((gs 5).2.2.2.2.2.2.2)]), (g5r, aI g 11 ((gs 5).2.2.1)), (g5x, aI g 10 ((gs 5).2.2.2.1)), (g5y, aI g 10 ((gs 5).2.2.2.2.1)), (h0, oB 6 [vi w, vi h, .ref h0r, .ref h0x, .ref h0y, vi n, vi m, vi c]), (h0r, aI g 11 f), (h0x, aI g 10 X), (h0y, aI g 10 Y)]) dX3_keep_48 0 rfl (Nat.le_of_ble_eq_true rfl) rfl ?_
    exact e_v C () dX3_keep_51 (trivial) rfl
  · skip
    refine r_aload_n C dX3_keep_0 0 rfl ?_
    refine gf_X3_11 C dX3_keep_1 0 rfl rfl ?_
    refine r_aload_n C dX3_keep_4 0 rfl ?_
    refine gf_X3_21 C dX3_keep_5 0 rfl rfl ?_
    refine r_aald C (b := g3) dX3_keep_8 1 rfl rfl (by omega) rfl ?_
    refine r_aload_n C dX3_keep_9 1 rfl ?_
    refine m_Vv C kv_X3_29 (fun sz => c_X7_copyFrom l g g3 g3r g3x g3y ((gs 3).1) ((gs 3).2.1) ((gs 3).2.2.2.2.2.1) ((gs 3).2.2.2.2.2.2.1) ((gs 3).2.2.2.2.2.2.2) ((gs 3).2.2.1) ((gs 3).2.2.2.1) ((gs 3).2.2.2.2.1) h0 h0r h0x h0y w h n m c f X Y sz) dX3_keep_10 rfl rfl rfl ⟨rfl, rfl⟩ 15 6 rfl rfl rfl [false, false, false, false, false, false, false, false, false, false, false, false, false, false, false, true, true, true, true, false, false, false, false, false, false, false, false, true, true, true, true] rfl (fun _ => rfl) (ws' := fun u_ => [(hh, oB 3 [.ref hhq, .ref hhb, vi 3, vi hz]), (hhq, aQ g 6 (q6 g0 g1 g2 g3 g4 g5)), (hhb, aI g 6 bz), (g0, oB 6 [vi ((gs 0).1), vi ((gs 0).2.1), .ref g0r, .ref g0x, .ref g0y, vi ((gs 0).2.2.2.2.2.1), vi ((gs 0).2.2.2.2.2.2.1), vi ((gs 0).2.2.2.2.2.2.2)]), (g0r, aI g 11 ((gs 0).2.2.1)), (g0x, aI g 10 ((gs 0).2.2.2.1)), (g0y, aI g 10 ((gs 0).2.2.2.2.1)), (g1, oB 6 [vi ((gs 1).1), vi ((gs 1).2.1), .ref g1r, .ref g1x, .ref g1y, vi ((gs 1).2.2.2.2.2.1), vi ((gs 1).2.2.2.2.2.2.1), vi ((gs 1).2.2.2.2.2.2.2)]), (g1r, aI g 11 ((gs 1).2.2.1)), (g1x, aI g 10 ((gs 1).2.2.2.1)), (g1y, aI g 10 ((gs 1).2.2.2.2.1)), (g2, oB 6 [vi ((gs 2).1), vi ((gs 2).2.1), .ref g2r, .ref g2x, .ref g2y, vi ((gs 2).2.2.2.2.2.1), vi ((gs 2).2.2.2.2.2.2.1), vi ((gs 2).2.2.2.2.2.2.2)]), (g2r, aI g 11 ((gs 2).2.2.1)), (g2x, aI g 10 ((gs 2).2.2.2.1)), (g2y, aI g 10 ((gs 2).2.2.2.2.1)), (g3, oB 6 [vi w, vi h, .ref g3r, .ref g3x, .ref g3y, vi n, vi m, vi c]), (g3r, aI g 11 f), (g3x, aI g 10 X), (g3y, aI g 10 Y), (g4, oB 6 [vi ((gs 4).1), vi ((gs 4).2.1), .ref g4r, .ref g4x, .ref g4y, vi ((gs 4).2.2.2.2.2.1), vi ((gs 4).2.2.2.2.2.2.1), vi ((gs 4).2.2.2.2.2.2.2)]), (g4r, aI g 11 ((gs 4).2.2.1)), (g4x, aI g 10 ((gs 4).2.2.2.1)), (g4y, aI g 10 ((gs 4).2.2.2.2.1)), (g5, oB 6 [vi ((gs 5).1), vi ((gs 5).2.1), .ref g5r, .ref g5x, .ref g5y, vi ((gs 5).2.2.2.2.2.1), vi ((gs 5).2.2.2.2.2.2.1), vi ((gs 5).2.2.2.2.2.2.2)]), (g5r, aI g 11 ((gs 5).2.2.1)), (g5x, aI g 10 ((gs 5).2.2.2.1)), (g5y, aI g 10 ((gs 5).2.2.2.2.1)), (h0, oB 6 [vi w, vi h, .ref h0r, .ref h0x, .ref h0y, vi n, vi m, vi c]), (h0r, aI g 11 f), (h0x, aI g 10 X), (h0y, aI g 10 Y)]) (fun _ => rfl) (fun u_ p_10 => ?_)
    refine r_aload_n C dX3_keep_13 0 rfl ?_
    refine gf_X3_17 C dX3_keep_14 0 rfl rfl ?_
    refine r_aload_n C dX3_keep_17 0 rfl ?_
    refine gf_X3_21 C dX3_keep_18 0 rfl rfl ?_
    refine r_iload_n C dX3_keep_21 2 rfl ?_
    refine r_iast C (ws' := [(hh, oB 3 [.ref hhq, .ref hhb, vi 3, vi hz]), (hhq, aQ g 6 (q6 g0 g1 g2 g3 g4 g5)), (hhb, aI g 6 (zU bz 3 bs)), (g0, oB 6 [vi ((gs 0).1), vi ((gs 0).2.1), .ref g0r, .ref g0x, .ref g0y, vi ((gs 0).2.2.2.2.2.1), vi ((gs 0).2.2.2.2.2.2.1), vi ((gs 0).2.2.2.2.2.2.2)]), (g0r, aI g 11 ((gs 0).2.2.1)), (g0x, aI g 10 ((gs 0).2.2.2.1)), (g0y, aI g 10 ((gs 0).2.2.2.2.1)), (g1, oB 6 [vi ((gs 1).1), vi ((gs 1).2.1), .ref g1r, .ref g1x, .ref g1y, vi ((gs 1).2.2.2.2.2.1), vi ((gs 1).2.2.2.2.2.2.1), vi ((gs 1).2.2.2.2.2.2.2)]), (g1r, aI g 11 ((gs 1).2.2.1)), (g1x, aI g 10 ((gs 1).2.2.2.1)), (g1y, aI g 10 ((gs 1).2.2.2.2.1)), (g2, oB 6 [vi ((gs 2).1), vi ((gs 2).2.1), .ref g2r, .ref g2x, .ref g2y, vi ((gs 2).2.2.2.2.2.1), vi ((gs 2).2.2.2.2.2.2.1), vi ((gs 2).2.2.2.2.2.2.2)]), (g2r, aI g 11 ((gs 2).2.2.1)), (g2x, aI g 10 ((gs 2).2.2.2.1)), (g2y, aI g 10 ((gs 2).2.2.2.2.1)), (g3, oB 6 [vi w, vi h, .ref g3r, .ref g3x, .ref g3y, vi n, vi m, vi c]), (g3r, aI g 11 f), (g3x, aI g 10 X), (g3y, aI g 10 Y), (g4, oB 6 [vi ((gs 4).1), vi ((gs 4).2.1), .ref g4r, .ref g4x, .ref g4y, vi ((gs 4).2.2.2.2.2.1), vi ((gs 4).2.2.2.2.2.2.1), vi ((gs 4).2.2.2.2.2.2.2)]), (g4r, aI g 11 ((gs 4).2.2.1)), (g4x, aI g 10 ((gs 4).2.2.2.1)), (g4y, aI g 10 ((gs 4).2.2.2.2.1)), (g5, oB 6 [vi ((gs 5).1), vi ((gs 5).2.1), .ref g5r, .ref g5x, .ref g5y, vi ((gs 5).2.2.2.2.2.1), vi ((gs 5).2.2.2.2.2.2.1), vi ((gs 5).2.2.2.2.2.2.2)]), (g5r, aI g 11 ((gs 5).2.2.1)), (g5x, aI g 10 ((gs 5).2.2.2.1)), (g5y, aI g 10 ((gs 5).2.2.2.2.1)), (h0, oB 6 [vi w, vi h, .ref h0r, .ref h0x, .ref h0y, vi n, vi m, vi c]), (h0r, aI g 11 f), (h0x, aI g 10 X), (h0y, aI g 10 Y)]) dX3_keep_22 2 rfl rfl (by omega) rfl ?_
    refine r_aload_n C dX3_keep_23 0 rfl ?_
    refine r_aload_n C dX3_keep_24 0 rfl ?_
    refine gf_X3_21 C dX3_keep_25 0 rfl rfl ?_
    refine r_iconst C dX3_keep_28 ?_
    refine r_iadd C dX3_keep_29 ?_
    refine r_bipush C dX3_keep_30 rfl ?_
    refine r_irem C dX3_keep_32 (by omega) ?_
    refine pf_X3_21 C (ws' := [(hh, oB 3 [.ref hhq, .ref hhb, vi ((3 + 1) % 6), vi hz]), (hhq, aQ g 6 (q6 g0 g1 g2 g3 g4 g5)), (hhb, aI g 6 (zU bz 3 bs)), (g0, oB 6 [vi ((gs 0).1), vi ((gs 0).2.1), .ref g0r, .ref g0x, .ref g0y, vi ((gs 0).2.2.2.2.2.1), vi ((gs 0).2.2.2.2.2.2.1), vi ((gs 0).2.2.2.2.2.2.2)]), (g0r, aI g 11 ((gs 0).2.2.1)), (g0x, aI g 10 ((gs 0).2.2.2.1)), (g0y, aI g 10 ((gs 0).2.2.2.2.1)), (g1, oB 6 [vi ((gs 1).1), vi ((gs 1).2.1), .ref g1r, .ref g1x, .ref g1y, vi ((gs 1).2.2.2.2.2.1), vi ((gs 1).2.2.2.2.2.2.1), vi ((gs 1).2.2.2.2.2.2.2)]), (g1r, aI g 11 ((gs 1).2.2.1)), (g1x, aI g 10 ((gs 1).2.2.2.1)), (g1y, aI g 10 ((gs 1).2.2.2.2.1)), (g2, oB 6 [vi ((gs 2).1), vi ((gs 2).2.1), .ref g2r, .ref g2x, .ref g2y, vi ((gs 2).2.2.2.2.2.1), vi ((gs 2).2.2.2.2.2.2.1), vi ((gs 2).2.2.2.2.2.2.2)]), (g2r, aI g 11 ((gs 2).2.2.1)), (g2x, aI g 10 ((gs 2).2.2.2.1)), (g2y, aI g 10 ((gs 2).2.2.2.2.1)), (g3, oB 6 [vi w, vi h, .ref g3r, .ref g3x, .ref g3y, vi n, vi m, vi c]), (g3r, aI g 11 f), (g3x, aI g 10 X), (g3y, aI g 10 Y), (g4, oB 6 [vi ((gs 4).1), vi ((gs 4).2.1), .ref g4r, .ref g4x, .ref g4y, vi ((gs 4).2.2.2.2.2.1), vi ((gs 4).2.2.2.2.2.2.1), vi ((gs 4).2.2.2.2.2.2.2)]), (g4r, aI g 11 ((gs 4).2.2.1)), (g4x, aI g 10 ((gs 4).2.2.2.1)), (g4y, aI g 10 ((gs 4).2.2.2.2.1)), (g5, oB 6 [vi ((gs 5).1), vi ((gs 5).2.1), .ref g5r, .ref g5x, .ref g5y, vi ((gs 5).2.2.2.2.2.1), vi ((gs 5).2.2.2.2.2.2.1), vi ((gs 5).2.2.2.2.2.2.2)]), (g5r, aI g 11 ((gs 5).2.2.1)), (g5x, aI g 10 ((gs 5).2.2.2.1)), (g5y, aI g 10 ((gs 5).2.2.2.2.1)), (h0, oB 6 [vi w, vi h, .ref h0r, .ref h0x, .ref h0y, vi n, vi m, vi c]), (h0r, aI g 11 f), (h0x, aI g 10 X), (h0y, aI g 10 Y)]) dX3_keep_33 0 rfl (Nat.le_of_ble_eq_true rfl) rfl ?_
    refine r_aload_n C dX3_keep_36 0 rfl ?_
    refine r_aload_n C dX3_keep_37 0 rfl ?_
    refine gf_X3_25 C dX3_keep_38 0 rfl rfl ?_
    refine r_iconst C dX3_keep_41 ?_
    refine r_iadd C dX3_keep_42 ?_
    refine r_bipush C dX3_keep_43 rfl ?_
    refine r_mmin C (in_r17 (List.mem_of_getElem? (i := 1) rfl)) dX3_keep_45 ⟨rfl, rfl, rfl, rfl⟩ (by omega) ?_
    refine pf_X3_25 C (ws' := [(hh, oB 3 [.ref hhq, .ref hhb, vi ((3 + 1) % 6), vi (min (hz + 1) 6)]), (hhq, aQ g 6 (q6 g0 g1 g2 g3 g4 g5)), (hhb, aI g 6 (zU bz 3 bs)), (g0, oB 6 [vi ((gs 0).1), vi ((gs 0).2.1), .ref g0r, .ref g0x, .ref g0y, vi ((gs 0).2.2.2.2.2.1), vi ((gs 0).2.2.2.2.2.2.1), vi ((gs 0).2.2.2.2.2.2.2)]), (g0r, aI g 11 ((gs 0).2.2.1)), (g0x, aI g 10 ((gs 0).2.2.2.1)), (g0y, aI g 10 ((gs 0).2.2.2.2.1)), (g1, oB 6 [vi ((gs 1).1), vi ((gs 1).2.1), .ref g1r, .ref g1x, .ref g1y, vi ((gs 1).2.2.2.2.2.1), vi ((gs 1).2.2.2.2.2.2.1), vi ((gs 1).2.2.2.2.2.2.2)]), (g1r, aI g 11 ((gs 1).2.2.1)), (g1x, aI g 10 ((gs 1).2.2.2.1)), (g1y, aI g 10 ((gs 1).2.2.2.2.1)), (g2, oB 6 [vi ((gs 2).1), vi ((gs 2).2.1), .ref g2r, .ref g2x, .ref g2y, vi ((gs 2).2.2.2.2.2.1), vi ((gs 2).2.2.2.2.2.2.1), vi ((gs 2).2.2.2.2.2.2.2)]), (g2r, aI g 11 ((gs 2).2.2.1)), (g2x, aI g 10 ((gs 2).2.2.2.1)), (g2y, aI g 10 ((gs 2).2.2.2.2.1)), (g3, oB 6 [vi w, vi h, .ref g3r, .ref g3x, .ref g3y, vi n, vi m, vi c]), (g3r, aI g 11 f), (g3x, aI g 10 X), (g3y, aI g 10 Y), (g4, oB 6 [vi ((gs 4).1), vi ((gs 4).2.1), .ref g4r, .ref g4x, .ref g4y, vi ((gs 4).2.2.2.2.2.1), vi ((gs 4).2.2.2.2.2.2.1), vi ((gs 4).2.2.2.2.2.2.2)]), (g4r, aI g 11 ((gs 4).2.2.1)), (g4x, aI g 10 ((gs 4).2.2.2.1)), (g4y, aI g 10 ((gs 4).2.2.2.2.1)), (g5, oB 6 [vi ((gs 5).1), vi ((gs 5).2.1), .ref g5r, .ref g5x, .ref g5y, vi ((gs 5).2.2.2.2.2.1), vi ((gs 5).2.2.2.2.2.2.1), vi ((gs 5).2.2.2.2.2.2.2)]), (g5r, aI g 11 ((gs 5).2.2.1)), (g5x, aI g 10 ((gs 5).2.2.2.1)), (g5y, aI g 10 ((gs 5).2.2.2.2.1)), (h0, oB 6 [vi w, vi h, .ref h0r, .ref h0x, .ref h0y, vi n, vi m, vi c]), (h0r, aI g 11 f), (h0x, aI g 10 X), (h0y, aI g 10 Y)]) dX3_keep_48 0 rfl (Nat.le_of_ble_eq_true rfl) rfl ?_
    exact e_v C () dX3_keep_51 (trivial) rfl
  · skip
    refine r_aload_n C dX3_keep_0 0 rfl ?_
    refine gf_X3_11 C dX3_keep_1 0 rfl rfl ?_
    refine r_aload_n C dX3_keep_4 0 rfl ?_
    refine gf_X3_21 C dX3_keep_5 0 rfl rfl ?_
    refine r_aald C (b := g4) dX3_keep_8 1 rfl rfl (by omega) rfl ?_
    refine r_aload_n C dX3_keep_9 1 rfl ?_
    refine m_Vv C kv_X3_29 (fun sz => c_X7_copyFrom l g g4 g4r g4x g4y ((gs 4).1) ((gs 4).2.1) ((gs 4).2.2.2.2.2.1) ((gs 4).2.2.2.2.2.2.1) ((gs 4).2.2.2.2.2.2.2) ((gs 4).2.2.1) ((gs 4).2.2.2.1) ((gs 4).2.2.2.2.1) h0 h0r h0x h0y w h n m c f X Y sz) dX3_keep_10 rfl rfl rfl ⟨rfl, rfl⟩ 19 6 rfl rfl rfl [false, false, false, false, false, false, false, false, false, false, false, false, false, false, false, false, false, false, false, true, true, true, true, false, false, false, false, true, true, true, true] rfl (fun _ => rfl) (ws' := fun u_ => [(hh, oB 3 [.ref hhq, .ref hhb, vi 4, vi hz]), (hhq, aQ g 6 (q6 g0 g1 g2 g3 g4 g5)), (hhb, aI g 6 bz), (g0, oB 6 [vi ((gs 0).1), vi ((gs 0).2.1), .ref g0r, .ref g0x, .ref g0y, vi ((gs 0).2.2.2.2.2.1), vi ((gs 0).2.2.2.2.2.2.1), vi ((gs 0).2.2.2.2.2.2.2)]), (g0r, aI g 11 ((gs 0).2.2.1)), (g0x, aI g 10 ((gs 0).2.2.2.1)), (g0y, aI g 10 ((gs 0).2.2.2.2.1)), (g1, oB 6 [vi ((gs 1).1), vi ((gs 1).2.1), .ref g1r, .ref g1x, .ref g1y, vi ((gs 1).2.2.2.2.2.1), vi ((gs 1).2.2.2.2.2.2.1), vi ((gs 1).2.2.2.2.2.2.2)]), (g1r, aI g 11 ((gs 1).2.2.1)), (g1x, aI g 10 ((gs 1).2.2.2.1)), (g1y, aI g 10 ((gs 1).2.2.2.2.1)), (g2, oB 6 [vi ((gs 2).1), vi ((gs 2).2.1), .ref g2r, .ref g2x, .ref g2y, vi ((gs 2).2.2.2.2.2.1), vi ((gs 2).2.2.2.2.2.2.1), vi ((gs 2).2.2.2.2.2.2.2)]), (g2r, aI g 11 ((gs 2).2.2.1)), (g2x, aI g 10 ((gs 2).2.2.2.1)), (g2y, aI g 10 ((gs 2).2.2.2.2.1)), (g3, oB 6 [vi ((gs 3).1), vi ((gs 3).2.1), .ref g3r, .ref g3x, .ref g3y, vi ((gs 3).2.2.2.2.2.1), vi ((gs 3).2.2.2.2.2.2.1), vi ((gs 3).2.2.2.2.2.2.2)]), (g3r, aI g 11 ((gs 3).2.2.1)), (g3x, aI g 10 ((gs 3).2.2.2.1)), (g3y, aI g 10 ((gs 3).2.2.2.2.1)), (g4, oB 6 [vi w, vi h, .ref g4r, .ref g4x, .ref g4y, vi n, vi m, vi c]), (g4r, aI g 11 f), (g4x, aI g 10 X), (g4y, aI g 10 Y), (g5, oB 6 [vi ((gs 5).1), vi ((gs 5).2.1), .ref g5r, .ref g5x, .ref g5y, vi ((gs 5).2.2.2.2.2.1), vi ((gs 5).2.2.2.2.2.2.1), vi ((gs 5).2.2.2.2.2.2.2)]), (g5r, aI g 11 ((gs 5).2.2.1)), (g5x, aI g 10 ((gs 5).2.2.2.1)), (g5y, aI g 10 ((gs 5).2.2.2.2.1)), (h0, oB 6 [vi w, vi h, .ref h0r, .ref h0x, .ref h0y, vi n, vi m, vi c]), (h0r, aI g 11 f), (h0x, aI g 10 X), (h0y, aI g 10 Y)]) (fun _ => rfl) (fun u_ p_10 => ?_)
    refine r_aload_n C dX3_keep_13 0 rfl ?_
    refine gf_X3_17 C dX3_keep_14 0 rfl rfl ?_
    refine r_aload_n C dX3_keep_17 0 rfl ?_
    refine gf_X3_21 C dX3_keep_18 0 rfl rfl ?_
    refine r_iload_n C dX3_keep_21 2 rfl ?_
    refine r_iast C (ws' := [(hh, oB 3 [.ref hhq, .ref hhb, vi 4, vi hz]), (hhq, aQ g 6 (q6 g0 g1 g2 g3 g4 g5)), (hhb, aI g 6 (zU bz 4 bs)), (g0, oB 6 [vi ((gs 0).1), vi ((gs 0).2.1), .ref g0r, .ref g0x, .ref g0y, vi ((gs 0).2.2.2.2.2.1), vi ((gs 0).2.2.2.2.2.2.1), vi ((gs 0).2.2.2.2.2.2.2)]), (g0r, aI g 11 ((gs 0).2.2.1)), (g0x, aI g 10 ((gs 0).2.2.2.1)), (g0y, aI g 10 ((gs 0).2.2.2.2.1)), (g1, oB 6 [vi ((gs 1).1), vi ((gs 1).2.1), .ref g1r, .ref g1x, .ref g1y, vi ((gs 1).2.2.2.2.2.1), vi ((gs 1).2.2.2.2.2.2.1), vi ((gs 1).2.2.2.2.2.2.2)]), (g1r, aI g 11 ((gs 1).2.2.1)), (g1x, aI g 10 ((gs 1).2.2.2.1)), (g1y, aI g 10 ((gs 1).2.2.2.2.1)), (g2, oB 6 [vi ((gs 2).1), vi ((gs 2).2.1), .ref g2r, .ref g2x, .ref g2y, vi ((gs 2).2.2.2.2.2.1), vi ((gs 2).2.2.2.2.2.2.1), vi ((gs 2).2.2.2.2.2.2.2)]), (g2r, aI g 11 ((gs 2).2.2.1)), (g2x, aI g 10 ((gs 2).2.2.2.1)), (g2y, aI g 10 ((gs 2).2.2.2.2.1)), (g3, oB 6 [vi ((gs 3).1), vi ((gs 3).2.1), .ref g3r, .ref g3x, .ref g3y, vi ((gs 3).2.2.2.2.2.1), vi ((gs 3).2.2.2.2.2.2.1), vi ((gs 3).2.2.2.2.2.2.2)]), (g3r, aI g 11 ((gs 3).2.2.1)), (g3x, aI g 10 ((gs 3).2.2.2.1)), (g3y, aI g 10 ((gs 3).2.2.2.2.1)), (g4, oB 6 [vi w, vi h, .ref g4r, .ref g4x, .ref g4y, vi n, vi m, vi c]), (g4r, aI g 11 f), (g4x, aI g 10 X), (g4y, aI g 10 Y), (g5, oB 6 [vi ((gs 5).1), vi ((gs 5).2.1), .ref g5r, .ref g5x, .ref g5y, vi ((gs 5).2.2.2.2.2.1), vi ((gs 5).2.2.2.2.2.2.1), vi ((gs 5).2.2.2.2.2.2.2)]), (g5r, aI g 11 ((gs 5).2.2.1)), (g5x, aI g 10 ((gs 5).2.2.2.1)), (g5y, aI g 10 ((gs 5).2.2.2.2.1)), (h0, oB 6 [vi w, vi h, .ref h0r, .ref h0x, .ref h0y, vi n, vi m, vi c]), (h0r, aI g 11 f), (h0x, aI g 10 X), (h0y, aI g 10 Y)]) dX3_keep_22 2 rfl rfl (by omega) rfl ?_
    refine r_aload_n C dX3_keep_23 0 rfl ?_
    refine r_aload_n C dX3_keep_24 0 rfl ?_
    refine gf_X3_21 C dX3_keep_25 0 rfl rfl ?_
    refine r_iconst C dX3_keep_28 ?_
    refine r_iadd C dX3_keep_29 ?_
    refine r_bipush C dX3_keep_30 rfl ?_
    refine r_irem C dX3_keep_32 (by omega) ?_
    refine pf_X3_21 C (ws' := [(hh, oB 3 [.ref hhq, .ref hhb, vi ((4 + 1) % 6), vi hz]), (hhq, aQ g 6 (q6 g0 g1 g2 g3 g4 g5)), (hhb, aI g 6 (zU bz 4 bs)), (g0, oB 6 [vi ((gs 0).1), vi ((gs 0).2.1), .ref g0r, .ref g0x, .ref g0y, vi ((gs 0).2.2.2.2.2.1), vi ((gs 0).2.2.2.2.2.2.1), vi ((gs 0).2.2.2.2.2.2.2)]), (g0r, aI g 11 ((gs 0).2.2.1)), (g0x, aI g 10 ((gs 0).2.2.2.1)), (g0y, aI g 10 ((gs 0).2.2.2.2.1)), (g1, oB 6 [vi ((gs 1).1), vi ((gs 1).2.1), .ref g1r, .ref g1x, .ref g1y, vi ((gs 1).2.2.2.2.2.1), vi ((gs 1).2.2.2.2.2.2.1), vi ((gs 1).2.2.2.2.2.2.2)]), (g1r, aI g 11 ((gs 1).2.2.1)), (g1x, aI g 10 ((gs 1).2.2.2.1)), (g1y, aI g 10 ((gs 1).2.2.2.2.1)), (g2, oB 6 [vi ((gs 2).1), vi ((gs 2).2.1), .ref g2r, .ref g2x, .ref g2y, vi ((gs 2).2.2.2.2.2.1), vi ((gs 2).2.2.2.2.2.2.1), vi ((gs 2).2.2.2.2.2.2.2)]), (g2r, aI g 11 ((gs 2).2.2.1)), (g2x, aI g 10 ((gs 2).2.2.2.1)), (g2y, aI g 10 ((gs 2).2.2.2.2.1)), (g3, oB 6 [vi ((gs 3).1), vi ((gs 3).2.1), .ref g3r, .ref g3x, .ref g3y, vi ((gs 3).2.2.2.2.2.1), vi ((gs 3).2.2.2.2.2.2.1), vi ((gs 3).2.2.2.2.2.2.2)]), (g3r, aI g 11 ((gs 3).2.2.1)), (g3x, aI g 10 ((gs 3).2.2.2.1)), (g3y, aI g 10 ((gs 3).2.2.2.2.1)), (g4, oB 6 [vi w, vi h, .ref g4r, .ref g4x, .ref g4y, vi n, vi m, vi c]), (g4r, aI g 11 f), (g4x, aI g 10 X), (g4y, aI g 10 Y), (g5, oB 6 [vi ((gs 5).1), vi ((gs 5).2.1), .ref g5r, .ref g5x, .ref g5y, vi ((gs 5).2.2.2.2.2.1), vi ((gs 5).2.2.2.2.2.2.1), vi ((gs 5).2.2.2.2.2.2.2)]), (g5r, aI g 11 ((gs 5).2.2.1)), (g5x, aI g 10 ((gs 5).2.2.2.1)), (g5y, aI g 10 ((gs 5).2.2.2.2.1)), (h0, oB 6 [vi w, vi h, .ref h0r, .ref h0x, .ref h0y, vi n, vi m, vi c]), (h0r, aI g 11 f), (h0x, aI g 10 X), (h0y, aI g 10 Y)]) dX3_keep_33 0 rfl (Nat.le_of_ble_eq_true rfl) rfl ?_
    refine r_aload_n C dX3_keep_36 0 rfl ?_
    refine r_aload_n C dX3_keep_37 0 rfl ?_
    refine gf_X3_25 C dX3_keep_38 0 rfl rfl ?_
    refine r_iconst C dX3_keep_41 ?_
    refine r_iadd C dX3_keep_42 ?_
    refine r_bipush C dX3_keep_43 rfl ?_
    refine r_mmin C (in_r17 (List.mem_of_getElem? (i := 1) rfl)) dX3_keep_45 ⟨rfl, rfl, rfl, rfl⟩ (by omega) ?_
    refine pf_X3_25 C (ws' := [(hh, oB 3 [.ref hhq, .ref hhb, vi ((4 + 1) % 6), vi (min (hz + 1) 6)]), (hhq, aQ g 6 (q6 g0 g1 g2 g3 g4 g5)), (hhb, aI g 6 (zU bz 4 bs)), (g0, oB 6 [vi ((gs 0).1), vi ((gs 0).2.1), .ref g0r, .ref g0x, .ref g0y, vi ((gs 0).2.2.2.2.2.1), vi ((gs 0).2.2.2.2.2.2.1), vi ((gs 0).2.2.2.2.2.2.2)]), (g0r, aI g 11 ((gs 0).2.2.1)), (g0x, aI g 10 ((gs 0).2.2.2.1)), (g0y, aI g 10 ((gs 0).2.2.2.2.1)), (g1, oB 6 [vi ((gs 1).1), vi ((gs 1).2.1), .ref g1r, .ref g1x, .ref g1y, vi ((gs 1).2.2.2.2.2.1), vi ((gs 1).2.2.2.2.2.2.1), vi ((gs 1).2.2.2.2.2.2.2)]), (g1r, aI g 11 ((gs 1).2.2.1)), (g1x, aI g 10 ((gs 1).2.2.2.1)), (g1y, aI g 10 ((gs 1).2.2.2.2.1)), (g2, oB 6 [vi ((gs 2).1), vi ((gs 2).2.1), .ref g2r, .ref g2x, .ref g2y, vi ((gs 2).2.2.2.2.2.1), vi ((gs 2).2.2.2.2.2.2.1), vi ((gs 2).2.2.2.2.2.2.2)]), (g2r, aI g 11 ((gs 2).2.2.1)), (g2x, aI g 10 ((gs 2).2.2.2.1)), (g2y, aI g 10 ((gs 2).2.2.2.2.1)), (g3, oB 6 [vi ((gs 3).1), vi ((gs 3).2.1), .ref g3r, .ref g3x, .ref g3y, vi ((gs 3).2.2.2.2.2.1), vi ((gs 3).2.2.2.2.2.2.1), vi ((gs 3).2.2.2.2.2.2.2)]), (g3r, aI g 11 ((gs 3).2.2.1)), (g3x, aI g 10 ((gs 3).2.2.2.1)), (g3y, aI g 10 ((gs 3).2.2.2.2.1)), (g4, oB 6 [vi w, vi h, .ref g4r, .ref g4x, .ref g4y, vi n, vi m, vi c]), (g4r, aI g 11 f), (g4x, aI g 10 X), (g4y, aI g 10 Y), (g5, oB 6 [vi ((gs 5).1), vi ((gs 5).2.1), .ref g5r, .ref g5x, .ref g5y, vi ((gs 5).2.2.2.2.2.1), vi ((gs 5).2.2.2.2.2.2.1), vi ((gs 5).2.2.2.2.2.2.2)]), (g5r, aI g 11 ((gs 5).2.2.1)), (g5x, aI g 10 ((gs 5).2.2.2.1)), (g5y, aI g 10 ((gs 5).2.2.2.2.1)), (h0, oB 6 [vi w, vi h, .ref h0r, .ref h0x, .ref h0y, vi n, vi m, vi c]), (h0r, aI g 11 f), (h0x, aI g 10 X), (h0y, aI g 10 Y)]) dX3_keep_48 0 rfl (Nat.le_of_ble_eq_true rfl) rfl ?_
    exact e_v C () dX3_keep_51 (trivial) rfl
  · skip
    refine r_aload_n C dX3_keep_0 0 rfl ?_
    refine gf_X3_11 C dX3_keep_1 0 rfl rfl ?_
    refine r_aload_n C dX3_keep_4 0 rfl ?_
    refine gf_X3_21 C dX3_keep_5 0 rfl rfl ?_
    refine r_aald C (b := g5) dX3_keep_8 1 rfl rfl (by omega) rfl ?_
    refine r_aload_n C dX3_keep_9 1 rfl ?_
    refine m_Vv C kv_X3_29 (fun sz => c_X7_copyFrom l g g5 g5r g5x g5y ((gs 5).1) ((gs 5).2.1) ((gs 5).2.2.2.2.2.1) ((gs 5).2.2.2.2.2.2.1) ((gs 5).2.2.2.2.2.2.2) ((gs 5).2.2.1) ((gs 5).2.2.2.1) ((gs 5).2.2.2.2.1) h0 h0r h0x h0y w h n m c f X Y sz) dX3_keep_10 rfl rfl rfl ⟨rfl, rfl⟩ 23 6 rfl rfl rfl [false, false, false, false, false, false, false, false, false, false, false, false, false, false, false, false, false, false, false, false, false, false, false, true, true, true, true, true, true, true, true] rfl (fun _ => rfl) (ws' := fun u_ => [(hh, oB 3 [.ref hhq, .ref hhb, vi 5, vi hz]), (hhq, aQ g 6 (q6 g0 g1 g2 g3 g4 g5)), (hhb, aI g 6 bz), (g0, oB 6 [vi ((gs 0).1), vi ((gs 0).2.1), .ref g0r, .ref g0x, .ref g0y, vi ((gs 0).2.2.2.2.2.1), vi ((gs 0).2.2.2.2.2.2.1), vi ((gs 0).2.2.2.2.2.2.2)]), (g0r, aI g 11 ((gs 0).2.2.1)), (g0x, aI g 10 ((gs 0).2.2.2.1)), (g0y, aI g 10 ((gs 0).2.2.2.2.1)), (g1, oB 6 [vi ((gs 1).1), vi ((gs 1).2.1), .ref g1r, .ref g1x, .ref g1y, vi ((gs 1).2.2.2.2.2.1), vi ((gs 1).2.2.2.2.2.2.1), vi ((gs 1).2.2.2.2.2.2.2)]), (g1r, aI g 11 ((gs 1).2.2.1)), (g1x, aI g 10 ((gs 1).2.2.2.1)), (g1y, aI g 10 ((gs 1).2.2.2.2.1)), (g2, oB 6 [vi ((gs 2).1), vi ((gs 2).2.1), .ref g2r, .ref g2x, .ref g2y, vi ((gs 2).2.2.2.2.2.1), vi ((gs 2).2.2.2.2.2.2.1), vi ((gs 2).2.2.2.2.2.2.2)]), (g2r, aI g 11 ((gs 2).2.2.1)), (g2x, aI g 10 ((gs 2).2.2.2.1)), (g2y, aI g 10 ((gs 2).2.2.2.2.1)), (g3, oB 6 [vi ((gs 3).1), vi ((gs 3).2.1), .ref g3r, .ref g3x, .ref g3y, vi ((gs 3).2.2.2.2.2.1), vi ((gs 3).2.2.2.2.2.2.1), vi ((gs 3).2.2.2.2.2.2.2)]), (g3r, aI g 11 ((gs 3).2.2.1)), (g3x, aI g 10 ((gs 3).2.2.2.1)), (g3y, aI g 10 ((gs 3).2.2.2.2.1)), (g4, oB 6 [vi ((gs 4).1), vi ((gs 4).2.1), .ref g4r, .ref g4x, .ref g4y, vi ((gs 4).2.2.2.2.2.1), vi ((gs 4).2.2.2.2.2.2.1), vi ((gs 4).2.2.2.2.2.2.2)]), (g4r, aI g 11 ((gs 4).2.2.1)), (g4x, aI g 10 ((gs 4).2.2.2.1)), (g4y, aI g 10 ((gs 4).2.2.2.2.1)), (g5, oB 6 [vi w, vi h, .ref g5r, .ref g5x, .ref g5y, vi n, vi m, vi c]), (g5r, aI g 11 f), (g5x, aI g 10 X), (g5y, aI g 10 Y), (h0, oB 6 [vi w, vi h, .ref h0r, .ref h0x, .ref h0y, vi n, vi m, vi c]), (h0r, aI g 11 f), (h0x, aI g 10 X), (h0y, aI g 10 Y)]) (fun _ => rfl) (fun u_ p_10 => ?_)
    refine r_aload_n C dX3_keep_13 0 rfl ?_
    refine gf_X3_17 C dX3_keep_14 0 rfl rfl ?_
    refine r_aload_n C dX3_keep_17 0 rfl ?_
    refine gf_X3_21 C dX3_keep_18 0 rfl rfl ?_
    refine r_iload_n C dX3_keep_21 2 rfl ?_
    refine r_iast C (ws' := [(hh, oB 3 [.ref hhq, .ref hhb, vi 5, vi hz]), (hhq, aQ g 6 (q6 g0 g1 g2 g3 g4 g5)), (hhb, aI g 6 (zU bz 5 bs)), (g0, oB 6 [vi ((gs 0).1), vi ((gs 0).2.1), .ref g0r, .ref g0x, .ref g0y, vi ((gs 0).2.2.2.2.2.1), vi ((gs 0).2.2.2.2.2.2.1), vi ((gs 0).2.2.2.2.2.2.2)]), (g0r, aI g 11 ((gs 0).2.2.1)), (g0x, aI g 10 ((gs 0).2.2.2.1)), (g0y, aI g 10 ((gs 0).2.2.2.2.1)), (g1, oB 6 [vi ((gs 1).1), vi ((gs 1).2.1), .ref g1r, .ref g1x, .ref g1y, vi ((gs 1).2.2.2.2.2.1), vi ((gs 1).2.2.2.2.2.2.1), vi ((gs 1).2.2.2.2.2.2.2)]), (g1r, aI g 11 ((gs 1).2.2.1)), (g1x, aI g 10 ((gs 1).2.2.2.1)), (g1y, aI g 10 ((gs 1).2.2.2.2.1)), (g2, oB 6 [vi ((gs 2).1), vi ((gs 2).2.1), .ref g2r, .ref g2x, .ref g2y, vi ((gs 2).2.2.2.2.2.1), vi ((gs 2).2.2.2.2.2.2.1), vi ((gs 2).2.2.2.2.2.2.2)]), (g2r, aI g 11 ((gs 2).2.2.1)), (g2x, aI g 10 ((gs 2).2.2.2.1)), (g2y, aI g 10 ((gs 2).2.2.2.2.1)), (g3, oB 6 [vi ((gs 3).1), vi ((gs 3).2.1), .ref g3r, .ref g3x, .ref g3y, vi ((gs 3).2.2.2.2.2.1), vi ((gs 3).2.2.2.2.2.2.1), vi ((gs 3).2.2.2.2.2.2.2)]), (g3r, aI g 11 ((gs 3).2.2.1)), (g3x, aI g 10 ((gs 3).2.2.2.1)), (g3y, aI g 10 ((gs 3).2.2.2.2.1)), (g4, oB 6 [vi ((gs 4).1), vi ((gs 4).2.1), .ref g4r, .ref g4x, .ref g4y, vi ((gs 4).2.2.2.2.2.1), vi ((gs 4).2.2.2.2.2.2.1), vi ((gs 4).2.2.2.2.2.2.2)]), (g4r, aI g 11 ((gs 4).2.2.1)), (g4x, aI g 10 ((gs 4).2.2.2.1)), (g4y, aI g 10 ((gs 4).2.2.2.2.1)), (g5, oB 6 [vi w, vi h, .ref g5r, .ref g5x, .ref g5y, vi n, vi m, vi c]), (g5r, aI g 11 f), (g5x, aI g 10 X), (g5y, aI g 10 Y), (h0, oB 6 [vi w, vi h, .ref h0r, .ref h0x, .ref h0y, vi n, vi m, vi c]), (h0r, aI g 11 f), (h0x, aI g 10 X), (h0y, aI g 10 Y)]) dX3_keep_22 2 rfl rfl (by omega) rfl ?_
    refine r_aload_n C dX3_keep_23 0 rfl ?_
    refine r_aload_n C dX3_keep_24 0 rfl ?_
    refine gf_X3_21 C dX3_keep_25 0 rfl rfl ?_
    refine r_iconst C dX3_keep_28 ?_
    refine r_iadd C dX3_keep_29 ?_
    refine r_bipush C dX3_keep_30 rfl ?_
    refine r_irem C dX3_keep_32 (by omega) ?_
    refine pf_X3_21 C (ws' := [(hh, oB 3 [.ref hhq, .ref hhb, vi ((5 + 1) % 6), vi hz]), (hhq, aQ g 6 (q6 g0 g1 g2 g3 g4 g5)), (hhb, aI g 6 (zU bz 5 bs)), (g0, oB 6 [vi ((gs 0).1), vi ((gs 0).2.1), .ref g0r, .ref g0x, .ref g0y, vi ((gs 0).2.2.2.2.2.1), vi ((gs 0).2.2.2.2.2.2.1), vi ((gs 0).2.2.2.2.2.2.2)]), (g0r, aI g 11 ((gs 0).2.2.1)), (g0x, aI g 10 ((gs 0).2.2.2.1)), (g0y, aI g 10 ((gs 0).2.2.2.2.1)), (g1, oB 6 [vi ((gs 1).1), vi ((gs 1).2.1), .ref g1r, .ref g1x, .ref g1y, vi ((gs 1).2.2.2.2.2.1), vi ((gs 1).2.2.2.2.2.2.1), vi ((gs 1).2.2.2.2.2.2.2)]), (g1r, aI g 11 ((gs 1).2.2.1)), (g1x, aI g 10 ((gs 1).2.2.2.1)), (g1y, aI g 10 ((gs 1).2.2.2.2.1)), (g2, oB 6 [vi ((gs 2).1), vi ((gs 2).2.1), .ref g2r, .ref g2x, .ref g2y, vi ((gs 2).2.2.2.2.2.1), vi ((gs 2).2.2.2.2.2.2.1), vi ((gs 2).2.2.2.2.2.2.2)]), (g2r, aI g 11 ((gs 2).2.2.1)), (g2x, aI g 10 ((gs 2).2.2.2.1)), (g2y, aI g 10 ((gs 2).2.2.2.2.1)), (g3, oB 6 [vi ((gs 3).1), vi ((gs 3).2.1), .ref g3r, .ref g3x, .ref g3y, vi ((gs 3).2.2.2.2.2.1), vi ((gs 3).2.2.2.2.2.2.1), vi ((gs 3).2.2.2.2.2.2.2)]), (g3r, aI g 11 ((gs 3).2.2.1)), (g3x, aI g 10 ((gs 3).2.2.2.1)), (g3y, aI g 10 ((gs 3).2.2.2.2.1)), (g4, oB 6 [vi ((gs 4).1), vi ((gs 4).2.1), .ref g4r, .ref g4x, .ref g4y, vi ((gs 4).2.2.2.2.2.1), vi ((gs 4).2.2.2.2.2.2.1), vi ((gs 4).2.2.2.2.2.2.2)]), (g4r, aI g 11 ((gs 4).2.2.1)), (g4x, aI g 10 ((gs 4).2.2.2.1)), (g4y, aI g 10 ((gs 4).2.2.2.2.1)), (g5, oB 6 [vi w, vi h, .ref g5r, .ref g5x, .ref g5y, vi n, vi m, vi c]), (g5r, aI g 11 f), (g5x, aI g 10 X), (g5y, aI g 10 Y), (h0, oB 6 [vi w, vi h, .ref h0r, .ref h0x, .ref h0y, vi n, vi m, vi c]), (h0r, aI g 11 f), (h0x, aI g 10 X), (h0y, aI g 10 Y)]) dX3_keep_33 0 rfl (Nat.le_of_ble_eq_true rfl) rfl ?_
    refine r_aload_n C dX3_keep_36 0 rfl ?_
    refine r_aload_n C dX3_keep_37 0 rfl ?_
    refine gf_X3_25 C dX3_keep_38 0 rfl rfl ?_
    refine r_iconst C dX3_keep_41 ?_
    refine r_iadd C dX3_keep_42 ?_
    refine r_bipush C dX3_keep_43 rfl ?_
    refine r_mmin C (in_r17 (List.mem_of_getElem? (i := 1) rfl)) dX3_keep_45 ⟨rfl, rfl, rfl, rfl⟩ (by omega) ?_
    refine pf_X3_25 C (ws' := [(hh, oB 3 [.ref hhq, .ref hhb, vi ((5 + 1) % 6), vi (min (hz + 1) 6)]), (hhq, aQ g 6 (q6 g0 g1 g2 g3 g4 g5)), (hhb, aI g 6 (zU bz 5 bs)), (g0, oB 6 [vi ((gs 0).1), vi ((gs 0).2.1), .ref g0r, .ref g0x, .ref g0y, vi ((gs 0).2.2.2.2.2.1), vi ((gs 0).2.2.2.2.2.2.1), vi ((gs 0).2.2.2.2.2.2.2)]), (g0r, aI g 11 ((gs 0).2.2.1)), (g0x, aI g 10 ((gs 0).2.2.2.1)), (g0y, aI g 10 ((gs 0).2.2.2.2.1)), (g1, oB 6 [vi ((gs 1).1), vi ((gs 1).2.1), .ref g1r, .ref g1x, .ref g1y, vi ((gs 1).2.2.2.2.2.1), vi ((gs 1).2.2.2.2.2.2.1), vi ((gs 1).2.2.2.2.2.2.2)]), (g1r, aI g 11 ((gs 1).2.2.1)), (g1x, aI g 10 ((gs 1).2.2.2.1)), (g1y, aI g 10 ((gs 1).2.2.2.2.1)), (g2, oB 6 [vi ((gs 2).1), vi ((gs 2).2.1), .ref g2r, .ref g2x, .ref g2y, vi ((gs 2).2.2.2.2.2.1), vi ((gs 2).2.2.2.2.2.2.1), vi ((gs 2).2.2.2.2.2.2.2)]), (g2r, aI g 11 ((gs 2).2.2.1)), (g2x, aI g 10 ((gs 2).2.2.2.1)), (g2y, aI g 10 ((gs 2).2.2.2.2.1)), (g3, oB 6 [vi ((gs 3).1), vi ((gs 3).2.1), .ref g3r, .ref g3x, .ref g3y, vi ((gs 3).2.2.2.2.2.1), vi ((gs 3).2.2.2.2.2.2.1), vi ((gs 3).2.2.2.2.2.2.2)]), (g3r, aI g 11 ((gs 3).2.2.1)), (g3x, aI g 10 ((gs 3).2.2.2.1)), (g3y, aI g 10 ((gs 3).2.2.2.2.1)), (g4, oB 6 [vi ((gs 4).1), vi ((gs 4).2.1), .ref g4r, .ref g4x, .ref g4y, vi ((gs 4).2.2.2.2.2.1), vi ((gs 4).2.2.2.2.2.2.1), vi ((gs 4).2.2.2.2.2.2.2)]), (g4r, aI g 11 ((gs 4).2.2.1)), (g4x, aI g 10 ((gs 4).2.2.2.1)), (g4y, aI g 10 ((gs 4).2.2.2.2.1)), (g5, oB 6 [vi w, vi h, .ref g5r, .ref g5x, .ref g5y, vi n, vi m, vi c]), (g5r, aI g 11 f), (g5x, aI g 10 X), (g5y, aI g 10 Y), (h0, oB 6 [vi w, vi h, .ref h0r, .ref h0x, .ref h0y, vi n, vi m, vi c]), (h0r, aI g 11 f), (h0x, aI g 10 X), (h0y, aI g 10 Y)]) dX3_keep_48 0 rfl (Nat.le_of_ble_eq_true rfl) rfl ?_
    exact e_v C () dX3_keep_51 (trivial) rfl
set_option maxHeartbeats 1000000 in
set_option maxRecDepth 100000 in
theorem c_X3_restoreLatest (l : Launch) (g : Gx) (hh : Nat) (hhq : Nat) (hhb : Nat) (nx : Int) (hz : Int) (bz : Int → Int) (g0 : Nat) (g0r : Nat) (g0x : Nat) (g0y : Nat) (g1 : Nat) (g1r : Nat) (g1x : Nat) (g1y : Nat) (g2 : Nat) (g2r : Nat) (g2x : Nat) (g2y : Nat) (g3 : Nat) (g3r : Nat) (g3x : Nat) (g3y : Nat) (g4 : Nat) (g4r : Nat) (g4x : Nat) (g4y : Nat) (g5 : Nat) (g5r : Nat) (g5x : Nat) (g5y : Nat) (gs : Int → SCT) (h0 : Nat) (h0r : Nat) (h0x : Nat) (h0y : Nat) (w : Int) (h : Int) (n : Int) (m : Int) (c : Int) (f : Int → Int) (X : Int → Int) (Y : Int → Int) (hb : Nat) (hbr : Nat) (hbg : Nat) (rk : Int → Int) (gn : Int → Int) (bs : Int) (hnx : nx = 0 ∨ nx = 1 ∨ nx = 2 ∨ nx = 3 ∨ nx = 4 ∨ nx = 5) (hhz : 1 ≤ hz ∧ hz ≤ 6) (sz : Nat) : Met l yX3_restoreLatest (.code yX3_restoreLatest cX3_restoreLatest 3 none :: wsL_law) { frames := 1, cells := 0, slots := 0, locals := 22 } (PR g [.ref hh, .ref h0, .ref hb] [(hh, oB 3 [.ref hhq, .ref hhb, vi nx, vi hz]), (hhq, aQ g 6 (q6 g0 g1 g2 g3 g4 g5)), (hhb, aI g 6 bz), (g0, oB 6 [vi ((gs 0).1), vi ((gs 0).2.1), .ref g0r, .ref g0x, .ref g0y, vi ((gs 0).2.2.2.2.2.1), vi ((gs 0).2.2.2.2.2.2.1), vi ((gs 0).2.2.2.2.2.2.2)]), (g0r, aI g 11 ((gs 0).2.2.1)), (g0x, aI g 10 ((gs 0).2.2.2.1)), (g0y, aI g 10 ((gs 0).2.2.2.2.1)), (g1, oB 6 [vi ((gs 1).1), vi ((gs 1).2.1), .ref g1r, .ref g1x, .ref g1y, vi ((gs 1).2.2.2.2.2.1), vi ((gs 1).2.2.2.2.2.2.1), vi ((gs 1).2.2.2.2.2.2.2)]), (g1r, aI g 11 ((gs 1).2.2.1)), (g1x, aI g 10 ((gs 1).2.2.2.1)), (g1y, aI g 10 ((gs 1).2.2.2.2.1)), (g2, oB 6 [vi ((gs 2).1), vi ((gs 2).2.1), .ref g2r, .ref g2x, .ref g2y, vi ((gs 2).2.2.2.2.2.1), vi ((gs 2).2.2.2.2.2.2.1), vi ((gs 2).2.2.2.2.2.2.2)]), (g2r, aI g 11 ((gs 2).2.2.1)), (g2x, aI g 10 ((gs 2).2.2.2.1)), (g2y, aI g 10 ((gs 2).2.2.2.2.1)), (g3, oB 6 [vi ((gs 3).1), vi ((gs 3).2.1), .ref g3r, .ref g3x, .ref g3y, vi ((gs 3).2.2.2.2.2.1), vi ((gs 3).2.2.2.2.2.2.1), vi ((gs 3).2.2.2.2.2.2.2)]), (g3r, aI g 11 ((gs 3).2.2.1)), (g3x, aI g 10 ((gs 3).2.2.2.1)), (g3y, aI g 10 ((gs 3).2.2.2.2.1)), (g4, oB 6 [vi ((gs 4).1), vi ((gs 4).2.1), .ref g4r, .ref g4x, .ref g4y, vi ((gs 4).2.2.2.2.2.1), vi ((gs 4).2.2.2.2.2.2.1), vi ((gs 4).2.2.2.2.2.2.2)]), (g4r, aI g 11 ((gs 4).2.2.1)), (g4x, aI g 10 ((gs 4).2.2.2.1)), (g4y, aI g 10 ((gs 4).2.2.2.2.1)), (g5, oB 6 [vi ((gs 5).1), vi ((gs 5).2.1), .ref g5r, .ref g5x, .ref g5y, vi ((gs 5).2.2.2.2.2.1), vi ((gs 5).2.2.2.2.2.2.1), vi ((gs 5).2.2.2.2.2.2.2)]), (g5r, aI g 11 ((gs 5).2.2.1)), (g5x, aI g 10 ((gs 5).2.2.2.1)), (g5y, aI g 10 ((gs 5).2.2.2.2.1)), (h0, oB 6 [vi w, vi h, .ref h0r, .ref h0x, .ref h0y, vi n, vi m, vi c]), (h0r, aI g 11 f), (h0x, aI g 10 X), (h0y, aI g 10 Y), (hb, oB 0 [.ref hbr, .ref hbg, vi bs]), (hbr, aI g 8 rk), (hbg, aI g 8 gn)] sz) (PV (S := Unit) g (fun u_ => True) (fun u_ => [(hh, oB 3 [.ref hhq, .ref hhb, vi ((nx + 5) % 6), vi (hz - 1)]), (hhq, aQ g 6 (q6 g0 g1 g2 g3 g4 g5)), (hhb, aI g 6 bz), (g0, oB 6 [vi ((gs 0).1), vi ((gs 0).2.1), .ref g0r, .ref g0x, .ref g0y, vi ((gs 0).2.2.2.2.2.1), vi ((gs 0).2.2.2.2.2.2.1), vi ((gs 0).2.2.2.2.2.2.2)]), (g0r, aI g 11 ((gs 0).2.2.1)), (g0x, aI g 10 ((gs 0).2.2.2.1)), (g0y, aI g 10 ((gs 0).2.2.2.2.1)), (g1, oB 6 [vi ((gs 1).1), vi ((gs 1).2.1), .ref g1r, .ref g1x, .ref g1y, vi ((gs 1).2.2.2.2.2.1), vi ((gs 1).2.2.2.2.2.2.1), vi ((gs 1).2.2.2.2.2.2.2)]), (g1r, aI g 11 ((gs 1).2.2.1)), (g1x, aI g 10 ((gs 1).2.2.2.1)), (g1y, aI g 10 ((gs 1).2.2.2.2.1)), (g2, oB 6 [vi ((gs 2).1), vi ((gs 2).2.1), .ref g2r, .ref g2x, .ref g2y, vi ((gs 2).2.2.2.2.2.1), vi ((gs 2).2.2.2.2.2.2.1), vi ((gs 2).2.2.2.2.2.2.2)]), (g2r, aI g 11 ((gs 2).2.2.1)), (g2x, aI g 10 ((gs 2).2.2.2.1)), (g2y, aI g 10 ((gs 2).2.2.2.2.1)), (g3, oB 6 [vi ((gs 3).1), vi ((gs 3).2.1), .ref g3r, .ref g3x, .ref g3y, vi ((gs 3).2.2.2.2.2.1), vi ((gs 3).2.2.2.2.2.2.1), vi ((gs 3).2.2.2.2.2.2.2)]), (g3r, aI g 11 ((gs 3).2.2.1)), (g3x, aI g 10 ((gs 3).2.2.2.1)), (g3y, aI g 10 ((gs 3).2.2.2.2.1)), (g4, oB 6 [vi ((gs 4).1), vi ((gs 4).2.1), .ref g4r, .ref g4x, .ref g4y, vi ((gs 4).2.2.2.2.2.1), vi ((gs 4).2.2.2.2.2.2.1), vi ((gs 4).2.2.2.2.2.2.2)]), (g4r, aI g 11 ((gs 4).2.2.1)), (g4x, aI g 10 ((gs 4).2.2.2.1)), (g4y, aI g 10 ((gs 4).2.2.2.2.1)), (g5, oB 6 [vi ((gs 5).1), vi ((gs 5).2.1), .ref g5r, .ref g5x, .ref g5y, vi ((gs 5).2.2.2.2.2.1), vi ((gs 5).2.2.2.2.2.2.1), vi ((gs 5).2.2.2.2.2.2.2)]), (g5r, aI g 11 ((gs 5).2.2.1)), (g5x, aI g 10 ((gs 5).2.2.2.1)), (g5y, aI g 10 ((gs 5).2.2.2.2.1)), (h0, oB 6 [vi ((gs ((nx + 5) % 6)).1), vi ((gs ((nx + 5) % 6)).2.1), .ref h0r, .ref h0x, .ref h0y, vi ((gs ((nx + 5) % 6)).2.2.2.2.2.1), vi ((gs ((nx + 5) % 6)).2.2.2.2.2.2.1), vi ((gs ((nx + 5) % 6)).2.2.2.2.2.2.2)]), (h0r, aI g 11 ((gs ((nx + 5) % 6)).2.2.1)), (h0x, aI g 10 ((gs ((nx + 5) % 6)).2.2.2.1)), (h0y, aI g 10 ((gs ((nx + 5) % 6)).2.2.2.2.1)), (hb, oB 0 [.ref hbr, .ref hbg, vi (bz ((nx + 5) % 6))]), (hbr, aI g 8 rk), (hbg, aI g 8 gn)]) [(hh, oB 3 [.ref hhq, .ref hhb, vi nx, vi hz]), (hhq, aQ g 6 (q6 g0 g1 g2 g3 g4 g5)), (hhb, aI g 6 bz), (g0, oB 6 [vi ((gs 0).1), vi ((gs 0).2.1), .ref g0r, .ref g0x, .ref g0y, vi ((gs 0).2.2.2.2.2.1), vi ((gs 0).2.2.2.2.2.2.1), vi ((gs 0).2.2.2.2.2.2.2)]), (g0r, aI g 11 ((gs 0).2.2.1)), (g0x, aI g 10 ((gs 0).2.2.2.1)), (g0y, aI g 10 ((gs 0).2.2.2.2.1)), (g1, oB 6 [vi ((gs 1).1), vi ((gs 1).2.1), .ref g1r, .ref g1x, .ref g1y, vi ((gs 1).2.2.2.2.2.1), vi ((gs 1).2.2.2.2.2.2.1), vi ((gs 1).2.2.2.2.2.2.2)]), (g1r, aI g 11 ((gs 1).2.2.1)), (g1x, aI g 10 ((gs 1).2.2.2.1)), (g1y, aI g 10 ((gs 1).2.2.2.2.1)), (g2, oB 6 [vi ((gs 2).1), vi ((gs 2).2.1), .ref g2r, .ref g2x, .ref g2y, vi ((gs 2).2.2.2.2.2.1), vi ((gs 2).2.2.2.2.2.2.1), vi ((gs 2).2.2.2.2.2.2.2)]), (g2r, aI g 11 ((gs 2).2.2.1)), (g2x, aI g 10 ((gs 2).2.2.2.1)), (g2y, aI g 10 ((gs 2).2.2.2.2.1)), (g3, oB 6 [vi ((gs 3).1), vi ((gs 3).2.1), .ref g3r, .ref g3x, .ref g3y, vi ((gs 3).2.2.2.2.2.1), vi ((gs 3).2.2.2.2.2.2.1), vi ((gs 3).2.2.2.2.2.2.2)]), (g3r, aI g 11 ((gs 3).2.2.1)), (g3x, aI g 10 ((gs 3).2.2.2.1)), (g3y, aI g 10 ((gs 3).2.2.2.2.1)), (g4, oB 6 [vi ((gs 4).1), vi ((gs 4).2.1), .ref g4r, .ref g4x, .ref g4y, vi ((gs 4).2.2.2.2.2.1), vi ((gs 4).2.2.2.2.2.2.1), vi ((gs 4).2.2.2.2.2.2.2)]), (g4r, aI g 11 ((gs 4).2.2.1)), (g4x, aI g 10 ((gs 4).2.2.2.1)), (g4y, aI g 10 ((gs 4).2.2.2.2.1)), (g5, oB 6 [vi ((gs 5).1), vi ((gs 5).2.1), .ref g5r, .ref g5x, .ref g5y, vi ((gs 5).2.2.2.2.2.1), vi ((gs 5).2.2.2.2.2.2.1), vi ((gs 5).2.2.2.2.2.2.2)]), (g5r, aI g 11 ((gs 5).2.2.1)), (g5x, aI g 10 ((gs 5).2.2.2.1)), (g5y, aI g 10 ((gs 5).2.2.2.2.1)), (h0, oB 6 [vi w, vi h, .ref h0r, .ref h0x, .ref h0y, vi n, vi m, vi c]), (h0r, aI g 11 f), (h0x, aI g 10 X), (h0y, aI g 10 Y), (hb, oB 0 [.ref hbr, .ref hbg, vi bs]), (hbr, aI g 8 rk), (hbg, aI g 8 gn)] sz) 0 0 (va_A [(hh, oB 3 [.ref hhq, .ref hhb, vi nx, vi hz]), (hhq, aQ g 6 (q6 g0 g1 g2 g3 g4 g5)), (hhb, aI g 6 bz), (g0, oB 6 [vi ((gs 0).1), vi ((gs 0).2.1), .ref g0r, .ref g0x, .ref g0y, vi ((gs 0).2.2.2.2.2.1), vi ((gs 0).2.2.2.2.2.2.1), vi ((gs 0).2.2.2.2.2.2.2)]), (g0r, aI g 11 ((gs 0).2.2.1)), (g0x, aI g 10 ((gs 0).2.2.2.1)), (g0y, aI g 10 ((gs 0).2.2.2.2.1)), (g1, oB 6 [vi ((gs 1).1), vi ((gs 1).2.1), .ref g1r, .ref g1x, .ref g1y, vi ((gs 1).2.2.2.2.2.1), vi ((gs 1).2.2.2.2.2.2.1), vi ((gs 1).2.2.2.2.2.2.2)]), (g1r, aI g 11 ((gs 1).2.2.1)), (g1x, aI g 10 ((gs 1).2.2.2.1)), (g1y, aI g 10 ((gs 1).2.2.2.2.1)), (g2, oB 6 [vi ((gs 2).1), vi ((gs 2).2.1), .ref g2r, .ref g2x, .ref g2y, vi ((gs 2).2.2.2.2.2.1), vi ((gs 2).2.2.2.2.2.2.1), vi ((gs 2).2.2.2.2.2.2.2)]), (g2r, aI g 11 ((gs 2).2.2.1)), (g2x, aI g 10 ((gs 2).2.2.2.1)), (g2y, aI g 10 ((gs 2).2.2.2.2.1)), (g3, oB 6 [vi ((gs 3).1), vi ((gs 3).2.1), .ref g3r, .ref g3x, .ref g3y, vi ((gs 3).2.2.2.2.2.1), vi ((gs 3).2.2.2.2.2.2.1), vi ((gs 3).2.2.2.2.2.2.2)]), (g3r, aI g 11 ((gs 3).2.2.1)), (g3x, aI g 10 ((gs 3).2.2.2.1)), (g3y, aI g 10 ((gs 3).2.2.2.2.1)), (g4, oB 6 [vi ((gs 4).1), vi ((gs 4).2.1), .ref g4r, .ref g4x, .ref g4y, vi ((gs 4).2.2.2.2.2.1), vi ((gs 4).2.2.2.2.2.2.1), vi ((gs 4).2.2.2.2.2.2.2)]), (g4r, aI g 11 ((gs 4).2.2.1)), (g4x, aI g 10 ((gs 4).2.2.2.1)), (g4y, aI g 10 ((gs 4).2.2.2.2.1)), (g5, oB 6 [vi ((gs 5).1), vi ((gs 5).2.1), .ref g5r, .ref g5x, .ref g5y, vi ((gs 5).2.2.2.2.2.1), vi ((gs 5).2.2.2.2.2.2.1), vi ((gs 5).2.2.2.2.2.2.2)]), (g5r, aI g 11 ((gs 5).2.2.1)), (g5x, aI g 10 ((gs 5).2.2.2.1)), (g5y, aI g 10 ((gs 5).2.2.2.2.1)), (h0, oB 6 [vi w, vi h, .ref h0r, .ref h0x, .ref h0y, vi n, vi m, vi c]), (h0r, aI g 11 f), (h0x, aI g 10 X), (h0y, aI g 10 Y), (hb, oB 0 [.ref hbr, .ref hbg, vi bs]), (hbr, aI g 8 rk), (hbg, aI g 8 gn)] sz) := by
  refine meet (own := RX3) rfl (plainFor_of_name (by decide +kernel)) rfl (fun p_ e_ s_ m_ args_ below_ meth_ c_ C hnm => ?_)
  refine r_at (ws' := [(hh, oB 3 [.ref hhq, .ref hhb, vi nx, vi hz]), (hhq, aQ g 6 (q6 g0 g1 g2 g3 g4 g5)), (hhb, aI g 6 bz), (g0, oB 6 [vi ((gs 0).1), vi ((gs 0).2.1), .ref g0r, .ref g0x, .ref g0y, vi ((gs 0).2.2.2.2.2.1), vi ((gs 0).2.2.2.2.2.2.1), vi ((gs 0).2.2.2.2.2.2.2)]), (g0r, aI g 11 ((gs 0).2.2.1)), (g0x, aI g 10 ((gs 0).2.2.2.1)), (g0y, aI g 10 ((gs 0).2.2.2.2.1)), (g1, oB 6 [vi ((gs 1).1), vi ((gs 1).2.1), .ref g1r, .ref g1x, .ref g1y, vi ((gs 1).2.2.2.2.2.1), vi ((gs 1).2.2.2.2.2.2.1), vi ((gs 1).2.2.2.2.2.2.2)]), (g1r, aI g 11 ((gs 1).2.2.1)), (g1x, aI g 10 ((gs 1).2.2.2.1)), (g1y, aI g 10 ((gs 1).2.2.2.2.1)), (g2, oB 6 [vi ((gs 2).1), vi ((gs 2).2.1), .ref g2r, .ref g2x, .ref g2y, vi ((gs 2).2.2.2.2.2.1), vi ((gs 2).2.2.2.2.2.2.1), vi ((gs 2).2.2.2.2.2.2.2)]), (g2r, aI g 11 ((gs 2).2.2.1)), (g2x, aI g 10 ((gs 2).2.2.2.1)), (g2y, aI g 10 ((gs 2).2.2.2.2.1)), (g3, oB 6 [vi ((gs 3).1), vi ((gs 3).2.1), .ref g3r, .ref g3x, .ref g3y, vi ((gs 3).2.2.2.2.2.1), vi ((gs 3).2.2.2.2.2.2.1), vi ((gs 3).2.2.2.2.2.2.2)]), (g3r, aI g 11 ((gs 3).2.2.1)), (g3x, aI g 10 ((gs 3).2.2.2.1)), (g3y, aI g 10 ((gs 3).2.2.2.2.1)), (g4, oB 6 [vi ((gs 4).1), vi ((gs 4).2.1), .ref g4r, .ref g4x, .ref g4y, vi ((gs 4).2.2.2.2.2.1), vi ((gs 4).2.2.2.2.2.2.1), vi ((gs 4).2.2.2.2.2.2.2)]), (g4r, aI g 11 ((gs 4).2.2.1)), (g4x, aI g 10 ((gs 4).2.2.2.1)), (g4y, aI g 10 ((gs 4).2.2.2.2.1)), (g5, oB 6 [vi ((gs 5).1), vi ((gs 5).2.1), .ref g5r, .ref g5x, .ref g5y, vi ((gs 5).2.2.2.2.2.1), vi ((gs 5).2.2.2.2.2.2.1), vi ((gs 5).2.2.2.2.2.2.2)]), (g5r, aI g 11 ((gs 5).2.2.1)), (g5x, aI g 10 ((gs 5).2.2.2.1)), (g5y, aI g 10 ((gs 5).2.2.2.2.1)), (h0, oB 6 [vi w, vi h, .ref h0r, .ref h0x, .ref h0y, vi n, vi m, vi c]), (h0r, aI g 11 f), (h0x, aI g 10 X), (h0y, aI g 10 Y), (hb, oB 0 [.ref hbr, .ref hbg, vi bs]), (hbr, aI g 8 rk), (hbg, aI g 8 gn)]) (lv' := [(0, .ref hh), (1, .ref h0), (2, .ref hb)]) rfl rfl ?_
  rcases hnx with rfl | rfl | rfl | rfl | rfl | rfl
  · skip
    refine r_aload_n C dX3_restoreLatest_0 0 rfl ?_
    refine gf_X3_25 C dX3_restoreLatest_1 0 rfl rfl ?_
    refine r_if_le C 59 dX3_restoreLatest_4 rfl (by omega) (fun c_1 => ?_) (fun c_1 => ?_)
    · skip
      exact absurd hhz (by omega)
    · skip
      refine r_aload_n C dX3_restoreLatest_7 0 rfl ?_
      refine r_dup C dX3_restoreLatest_8 rfl ?_
      refine gf_X3_25 C dX3_restoreLatest_9 0 rfl rfl ?_
      refine r_iconst C dX3_restoreLatest_12 ?_
      refine r_isub C dX3_restoreLatest_13 ?_
      refine pf_X3_25 C (ws' := [(hh, oB 3 [.ref hhq, .ref hhb, vi 0, vi (hz - 1)]), (hhq, aQ g 6 (q6 g0 g1 g2 g3 g4 g5)), (hhb, aI g 6 bz), (g0, oB 6 [vi ((gs 0).1), vi ((gs 0).2.1), .ref g0r, .ref g0x, .ref g0y, vi ((gs 0).2.2.2.2.2.1), vi ((gs 0).2.2.2.2.2.2.1), vi ((gs 0).2.2.2.2.2.2.2)]), (g0r, aI g 11 ((gs 0).2.2.1)), (g0x, aI g 10 ((gs 0).2.2.2.1)), (g0y, aI g 10 ((gs 0).2.2.2.2.1)), (g1, oB 6 [vi ((gs 1).1), vi ((gs 1).2.1), .ref g1r, .ref g1x, .ref g1y, vi ((gs 1).2.2.2.2.2.1), vi ((gs 1).2.2.2.2.2.2.1), vi ((gs 1).2.2.2.2.2.2.2)]), (g1r, aI g 11 ((gs 1).2.2.1)), (g1x, aI g 10 ((gs 1).2.2.2.1)), (g1y, aI g 10 ((gs 1).2.2.2.2.1)), (g2, oB 6 [vi ((gs 2).1), vi ((gs 2).2.1), .ref g2r, .ref g2x, .ref g2y, vi ((gs 2).2.2.2.2.2.1), vi ((gs 2).2.2.2.2.2.2.1), vi ((gs 2).2.2.2.2.2.2.2)]), (g2r, aI g 11 ((gs 2).2.2.1)), (g2x, aI g 10 ((gs 2).2.2.2.1)), (g2y, aI g 10 ((gs 2).2.2.2.2.1)), (g3, oB 6 [vi ((gs 3).1), vi ((gs 3).2.1), .ref g3r, .ref g3x, .ref g3y, vi ((gs 3).2.2.2.2.2.1), vi ((gs 3).2.2.2.2.2.2.1), vi ((gs 3).2.2.2.2.2.2.2)]), (g3r, aI g 11 ((gs 3).2.2.1)), (g3x, aI g 10 ((gs 3).2.2.2.1)), (g3y, aI g 10 ((gs 3).2.2.2.2.1)), (g4, oB 6 [vi ((gs 4).1), vi ((gs 4).2.1), .ref g4r, .ref g4x, .ref g4y, vi ((gs 4).2.2.2.2.2.1), vi ((gs 4).2.2.2.2.2.2.1), vi ((gs 4).2.2.2.2.2.2.2)]), (g4r, aI g 11 ((gs 4).2.2.1)), (g4x, aI g 10 ((gs 4).2.2.2.1)), (g4y, aI g 10 ((gs 4).2.2.2.2.1)), (g5, oB 6 [vi ((gs 5).1), vi ((gs 5).2.1), .ref g5r, .ref g5x, .ref g5y, vi ((gs 5).2.2.2.2.2.1), vi ((gs 5).2.2.2.2.2.2.1), vi ((gs 5).2.2.2.2.2.2.2)]), (g5r, aI g 11 ((gs 5).2.2.1)), (g5x, aI g 10 ((gs 5).2.2.2.1)), (g5y, aI g 10 ((gs 5).2.2.2.2.1)), (h0, oB 6 [vi w, vi h, .ref h0r, .ref h0x, .ref h0y, vi n, vi m, vi c]), (h0r, aI g 11 f), (h0x, aI g 10 X), (h0y, aI g 10 Y), (hb, oB 0 [.ref hbr, .ref hbg, vi bs]), (hbr, aI g 8 rk), (hbg, aI g 8 gn)]) dX3_restoreLatest_14 0 rfl (Nat.le_of_ble_eq_true rfl) rfl ?_
      refine r_aload_n C dX3_restoreLatest_17 0 rfl ?_
      refine r_aload_n C dX3_restoreLatest_18 0 rfl ?_
      refine gf_X3_21 C dX3_restoreLatest_19 0 rfl rfl ?_
      refine r_bipush C dX3_restoreLatest_22 rfl ?_
      refine r_iadd C dX3_restoreLatest_24 ?_
      refine r_iconst C dX3_restoreLatest_25 ?_
      refine r_isub C dX3_restoreLatest_26 ?_
      refine r_bipush C dX3_restoreLatest_27 rfl ?_
      refine r_irem C dX3_restoreLatest_29 (by omega) ?_
      refine r_eq (y := 5) (by decide) ?_
      refine pf_X3_21 C (ws' := [(hh, oB 3 [.ref hhq, .ref hhb, vi 5, vi (hz - 1)]), (hhq, aQ g 6 (q6 g0 g1 g2 g3 g4 g5)), (hhb, aI g 6 bz), (g0, oB 6 [vi ((gs 0).1), vi ((gs 0).2.1), .ref g0r, .ref g0x, .ref g0y, vi ((gs 0).2.2.2.2.2.1), vi ((gs 0).2.2.2.2.2.2.1), vi ((gs 0).2.2.2.2.2.2.2)]), (g0r, aI g 11 ((gs 0).2.2.1)), (g0x, aI g 10 ((gs 0).2.2.2.1)), (g0y, aI g 10 ((gs 0).2.2.2.2.1)), (g1, oB 6 [vi ((gs 1).1), vi ((gs 1).2.1), .ref g1r, .ref g1x, .ref g1y, vi ((gs 1).2.2.2.2.2.1), vi ((gs 1).2.2.2.2.2.2.1), vi ((gs 1).2.2.2.2.2.2.2)]), (g1r, aI g 11 ((gs 1).2.2.1)), (g1x, aI g 10 ((gs 1).2.2.2.1)), (g1y, aI g 10 ((gs 1).2.2.2.2.1)), (g2, oB 6 [vi ((gs 2).1), vi ((gs 2).2.1), .ref g2r, .ref g2x, .ref g2y, vi ((gs 2).2.2.2.2.2.1), vi ((gs 2).2.2.2.2.2.2.1), vi ((gs 2).2.2.2.2.2.2.2)]), (g2r, aI g 11 ((gs 2).2.2.1)), (g2x, aI g 10 ((gs 2).2.2.2.1)), (g2y, aI g 10 ((gs 2).2.2.2.2.1)), (g3, oB 6 [vi ((gs 3).1), vi ((gs 3).2.1), .ref g3r, .ref g3x, .ref g3y, vi ((gs 3).2.2.2.2.2.1), vi ((gs 3).2.2.2.2.2.2.1), vi ((gs 3).2.2.2.2.2.2.2)]), (g3r, aI g 11 ((gs 3).2.2.1)), (g3x, aI g 10 ((gs 3).2.2.2.1)), (g3y, aI g 10 ((gs 3).2.2.2.2.1)), (g4, oB 6 [vi ((gs 4).1), vi ((gs 4).2.1), .ref g4r, .ref g4x, .ref g4y, vi ((gs 4).2.2.2.2.2.1), vi ((gs 4).2.2.2.2.2.2.1), vi ((gs 4).2.2.2.2.2.2.2)]), (g4r, aI g 11 ((gs 4).2.2.1)), (g4x, aI g 10 ((gs 4).2.2.2.1)), (g4y, aI g 10 ((gs 4).2.2.2.2.1)), (g5, oB 6 [vi ((gs 5).1), vi ((gs 5).2.1), .ref g5r, .ref g5x, .ref g5y, vi ((gs 5).2.2.2.2.2.1), vi ((gs 5).2.2.2.2.2.2.1), vi ((gs 5).2.2.2.2.2.2.2)]), (g5r, aI g 11 ((gs 5).2.2.1)), (g5x, aI g 10 ((gs 5).2.2.2.1)), (g5y, aI g 10 ((gs 5).2.2.2.2.1)), (h0, oB 6 [vi w, vi h, .ref h0r, .ref h0x, .ref h0y, vi n, vi m, vi c]), (h0r, aI g 11 f), (h0x, aI g 10 X), (h0y, aI g 10 Y), (hb, oB 0 [.ref hbr, .ref hbg, vi bs]), (hbr, aI g 8 rk), (hbg, aI g 8 gn)]) dX3_restoreLatest_30 0 rfl (Nat.le_of_ble_eq_true rfl) rfl ?_
      refine r_aload_n C dX3_restoreLatest_33 1 rfl ?_
      refine r_aload_n C dX3_restoreLatest_34 0 rfl ?_
      refine gf_X3_11 C dX3_restoreLatest_35 0 rfl rfl ?_
      refine r_aload_n C dX3_restoreLatest_38 0 rfl ?_
      refine gf_X3_21 C dX3_restoreLatest_39 0 rfl rfl ?_
      refine r_aald C (b := g5) dX3_restoreLatest_42 1 rfl rfl (by omega) rfl ?_
      refine k_Vv C kv_X3_29 (fun sz => c_X7_copyFrom l g h0 h0r h0x h0y w h n m c f X Y g5 g5r g5x g5y ((gs 5).1) ((gs 5).2.1) ((gs 5).2.2.2.2.2.1) ((gs 5).2.2.2.2.2.2.1) ((gs 5).2.2.2.2.2.2.2) ((gs 5).2.2.1) ((gs 5).2.2.2.1) ((gs 5).2.2.2.2.1) sz) dX3_restoreLatest_43 rfl rfl rfl ⟨rfl, rfl⟩ 27 6 rfl rfl rfl [27, 28, 29, 30, 23, 24, 25, 26] rfl rfl (fun _ => rfl) (ws' := fun u_ => [(hh, oB 3 [.ref hhq, .ref hhb, vi 5, vi (hz - 1)]), (hhq, aQ g 6 (q6 g0 g1 g2 g3 g4 g5)), (hhb, aI g 6 bz), (g0, oB 6 [vi ((gs 0).1), vi ((gs 0).2.1), .ref g0r, .ref g0x, .ref g0y, vi ((gs 0).2.2.2.2.2.1), vi ((gs 0).2.2.2.2.2.2.1), vi ((gs 0).2.2.2.2.2.2.2)]), (g0r, aI g 11 ((gs 0).2.2.1)), (g0x, aI g 10 ((gs 0).2.2.2.1)), (g0y, aI g 10 ((gs 0).2.2.2.2.1)), (g1, oB 6 [vi ((gs 1).1), vi ((gs 1).2.1), .ref g1r, .ref g1x, .ref g1y, vi ((gs 1).2.2.2.2.2.1), vi ((gs 1).2.2.2.2.2.2.1), vi ((gs 1).2.2.2.2.2.2.2)]), (g1r, aI g 11 ((gs 1).2.2.1)), (g1x, aI g 10 ((gs 1).2.2.2.1)), (g1y, aI g 10 ((gs 1).2.2.2.2.1)), (g2, oB 6 [vi ((gs 2).1), vi ((gs 2).2.1), .ref g2r, .ref g2x, .ref g2y, vi ((gs 2).2.2.2.2.2.1), vi ((gs 2).2.2.2.2.2.2.1), vi ((gs 2).2.2.2.2.2.2.2)]), (g2r, aI g 11 ((gs 2).2.2.1)), (g2x, aI g 10 ((gs 2).2.2.2.1)), (g2y, aI g 10 ((gs 2).2.2.2.2.1)), (g3, oB 6 [vi ((gs 3).1), vi ((gs 3).2.1), .ref g3r, .ref g3x, .ref g3y, vi ((gs 3).2.2.2.2.2.1), vi ((gs 3).2.2.2.2.2.2.1), vi ((gs 3).2.2.2.2.2.2.2)]), (g3r, aI g 11 ((gs 3).2.2.1)), (g3x, aI g 10 ((gs 3).2.2.2.1)), (g3y, aI g 10 ((gs 3).2.2.2.2.1)), (g4, oB 6 [vi ((gs 4).1), vi ((gs 4).2.1), .ref g4r, .ref g4x, .ref g4y, vi ((gs 4).2.2.2.2.2.1), vi ((gs 4).2.2.2.2.2.2.1), vi ((gs 4).2.2.2.2.2.2.2)]), (g4r, aI g 11 ((gs 4).2.2.1)), (g4x, aI g 10 ((gs 4).2.2.2.1)), (g4y, aI g 10 ((gs 4).2.2.2.2.1)), (g5, oB 6 [vi ((gs 5).1), vi ((gs 5).2.1), .ref g5r, .ref g5x, .ref g5y, vi ((gs 5).2.2.2.2.2.1), vi ((gs 5).2.2.2.2.2.2.1), vi ((gs 5).2.2.2.2.2.2.2)]), (g5r, aI g 11 ((gs 5).2.2.1)), (g5x, aI g 10 ((gs 5).2.2.2.1)), (g5y, aI g 10 ((gs 5).2.2.2.2.1)), (h0, oB 6 [vi ((gs 5).1), vi ((gs 5).2.1), .ref h0r, .ref h0x, .ref h0y, vi ((gs 5).2.2.2.2.2.1), vi ((gs 5).2.2.2.2.2.2.1), vi ((gs 5).2.2.2.2.2.2.2)]), (h0r, aI g 11 ((gs 5).2.2.1)), (h0x, aI g 10 ((gs 5).2.2.2.1)), (h0y, aI g 10 ((gs 5).2.2.2.2.1)), (hb, oB 0 [.ref hbr, .ref hbg, vi bs]), (hbr, aI g 8 rk), (hbg, aI g 8 gn)]) (fun _ => rfl) (fun u_ p_43 => ?_)
      refine r_aload_n C dX3_restoreLatest_46 2 rfl ?_
      refine r_aload_n C dX3_restoreLatest_47 0 rfl ?_
      refine gf_X3_17 C dX3_restoreLatest_48 0 rfl rfl ?_
      refine r_aload_n C dX3_restoreLatest_51 0 rfl ?_
      refine gf_X3_21 C dX3_restoreLatest_52 0 rfl rfl ?_
      refine r_iald C dX3_restoreLatest_55 2 rfl rfl (by omega) ?_
      refine pf_X3_39 C (ws' := [(hh, oB 3 [.ref hhq, .ref hhb, vi 5, vi (hz - 1)]), (hhq, aQ g 6 (q6 g0 g1 g2 g3 g4 g5)), (hhb, aI g 6 bz), (g0, oB 6 [vi ((gs 0).1), vi ((gs 0).2.1), .ref g0r, .ref g0x, .ref g0y, vi ((gs 0).2.2.2.2.2.1), vi ((gs 0).2.2.2.2.2.2.1), vi ((gs 0).2.2.2.2.2.2.2)]), (g0r, aI g 11 ((gs 0).2.2.1)), (g0x, aI g 10 ((gs 0).2.2.2.1)), (g0y, aI g 10 ((gs 0).2.2.2.2.1)), (g1, oB 6 [vi ((gs 1).1), vi ((gs 1).2.1), .ref g1r, .ref g1x, .ref g1y, vi ((gs 1).2.2.2.2.2.1), vi ((gs 1).2.2.2.2.2.2.1), vi ((gs 1).2.2.2.2.2.2.2)]), (g1r, aI g 11 ((gs 1).2.2.1)), (g1x, aI g 10 ((gs 1).2.2.2.1)), (g1y, aI g 10 ((gs 1).2.2.2.2.1)), (g2, oB 6 [vi ((gs 2).1), vi ((gs 2).2.1), .ref g2r, .ref g2x, .ref g2y, vi ((gs 2).2.2.2.2.2.1), vi ((gs 2).2.2.2.2.2.2.1), vi ((gs 2).2.2.2.2.2.2.2)]), (g2r, aI g 11 ((gs 2).2.2.1)), (g2x, aI g 10 ((gs 2).2.2.2.1)), (g2y, aI g 10 ((gs 2).2.2.2.2.1)), (g3, oB 6 [vi ((gs 3).1), vi ((gs 3).2.1), .ref g3r, .ref g3x, .ref g3y, vi ((gs 3).2.2.2.2.2.1), vi ((gs 3).2.2.2.2.2.2.1), vi ((gs 3).2.2.2.2.2.2.2)]), (g3r, aI g 11 ((gs 3).2.2.1)), (g3x, aI g 10 ((gs 3).2.2.2.1)), (g3y, aI g 10 ((gs 3).2.2.2.2.1)), (g4, oB 6 [vi ((gs 4).1), vi ((gs 4).2.1), .ref g4r, .ref g4x, .ref g4y, vi ((gs 4).2.2.2.2.2.1), vi ((gs 4).2.2.2.2.2.2.1), vi ((gs 4).2.2.2.2.2.2.2)]), (g4r, aI g 11 ((gs 4).2.2.1)), (g4x, aI g 10 ((gs 4).2.2.2.1)), (g4y, aI g 10 ((gs 4).2.2.2.2.1)), (g5, oB 6 [vi ((gs 5).1), vi ((gs 5).2.1), .ref g5r, .ref g5x, .ref g5y, vi ((gs 5).2.2.2.2.2.1), vi ((gs 5).2.2.2.2.2.2.1), vi ((gs 5).2.2.2.2.2.2.2)]), (g5r, aI g 11 ((gs 5).2.2.1)), (g5x, aI g 10 ((gs 5).2.2.2.1)), (g5y, aI g 10 ((gs 5).2.2.2.2.1)), (h0, oB 6 [vi ((gs 5).1), vi ((gs 5).2.1), .ref h0r, .ref h0x, .ref h0y, vi ((gs 5).2.2.2.2.2.1), vi ((gs 5).2.2.2.2.2.2.1), vi ((gs 5).2.2.2.2.2.2.2)]), (h0r, aI g 11 ((gs 5).2.2.1)), (h0x, aI g 10 ((gs 5).2.2.2.1)), (h0y, aI g 10 ((gs 5).2.2.2.2.1)), (hb, oB 0 [.ref hbr, .ref hbg, vi (bz 5)]), (hbr, aI g 8 rk), (hbg, aI g 8 gn)]) dX3_restoreLatest_56 31 rfl (Nat.le_of_ble_eq_true rfl) rfl ?_
      exact e_v C () dX3_restoreLatest_59 (trivial) rfl
  · skip
    refine r_aload_n C dX3_restoreLatest_0 0 rfl ?_
    refine gf_X3_25 C dX3_restoreLatest_1 0 rfl rfl ?_
    refine r_if_le C 59 dX3_restoreLatest_4 rfl (by omega) (fun c_2 => ?_) (fun c_2 => ?_)
    · skip
      exact absurd hhz (by omega)
    · skip
      refine r_aload_n C dX3_restoreLatest_7 0 rfl ?_
      refine r_dup C dX3_restoreLatest_8 rfl ?_
      refine gf_X3_25 C dX3_restoreLatest_9 0 rfl rfl ?_
      refine r_iconst C dX3_restoreLatest_12 ?_
      refine r_isub C dX3_restoreLatest_13 ?_
      refine pf_X3_25 C (ws' := [(hh, oB 3 [.ref hhq, .ref hhb, vi 1, vi (hz - 1)]), (hhq, aQ g 6 (q6 g0 g1 g2 g3 g4 g5)), (hhb, aI g 6 bz), (g0, oB 6 [vi ((gs 0).1), vi ((gs 0).2.1), .ref g0r, .ref g0x, .ref g0y, vi ((gs 0).2.2.2.2.2.1), vi ((gs 0).2.2.2.2.2.2.1), vi ((gs 0).2.2.2.2.2.2.2)]), (g0r, aI g 11 ((gs 0).2.2.1)), (g0x, aI g 10 ((gs 0).2.2.2.1)), (g0y, aI g 10 ((gs 0).2.2.2.2.1)), (g1, oB 6 [vi ((gs 1).1), vi ((gs 1).2.1), .ref g1r, .ref g1x, .ref g1y, vi ((gs 1).2.2.2.2.2.1), vi ((gs 1).2.2.2.2.2.2.1), vi ((gs 1).2.2.2.2.2.2.2)]), (g1r, aI g 11 ((gs 1).2.2.1)), (g1x, aI g 10 ((gs 1).2.2.2.1)), (g1y, aI g 10 ((gs 1).2.2.2.2.1)), (g2, oB 6 [vi ((gs 2).1), vi ((gs 2).2.1), .ref g2r, .ref g2x, .ref g2y, vi ((gs 2).2.2.2.2.2.1), vi ((gs 2).2.2.2.2.2.2.1), vi ((gs 2).2.2.2.2.2.2.2)]), (g2r, aI g 11 ((gs 2).2.2.1)), (g2x, aI g 10 ((gs 2).2.2.2.1)), (g2y, aI g 10 ((gs 2).2.2.2.2.1)), (g3, oB 6 [vi ((gs 3).1), vi ((gs 3).2.1), .ref g3r, .ref g3x, .ref g3y, vi ((gs 3).2.2.2.2.2.1), vi ((gs 3).2.2.2.2.2.2.1), vi ((gs 3).2.2.2.2.2.2.2)]), (g3r, aI g 11 ((gs 3).2.2.1)), (g3x, aI g 10 ((gs 3).2.2.2.1)), (g3y, aI g 10 ((gs 3).2.2.2.2.1)), (g4, oB 6 [vi ((gs 4).1), vi ((gs 4).2.1), .ref g4r, .ref g4x, .ref g4y, vi ((gs 4).2.2.2.2.2.1), vi ((gs 4).2.2.2.2.2.2.1), vi ((gs 4).2.2.2.2.2.2.2)]), (g4r, aI g 11 ((gs 4).2.2.1)), (g4x, aI g 10 ((gs 4).2.2.2.1)), (g4y, aI g 10 ((gs 4).2.2.2.2.1)), (g5, oB 6 [vi ((gs 5).1), vi ((gs 5).2.1), .ref g5r, .ref g5x, .ref g5y, vi ((gs 5).2.2.2.2.2.1), vi ((gs 5).2.2.2.2.2.2.1), vi ((gs 5).2.2.2.2.2.2.2)]), (g5r, aI g 11 ((gs 5).2.2.1)), (g5x, aI g 10 ((gs 5).2.2.2.1)), (g5y, aI g 10 ((gs 5).2.2.2.2.1)), (h0, oB 6 [vi w, vi h, .ref h0r, .ref h0x, .ref h0y, vi n, vi m, vi c]), (h0r, aI g 11 f), (h0x, aI g 10 X), (h0y, aI g 10 Y), (hb, oB 0 [.ref hbr, .ref hbg, vi bs]), (hbr, aI g 8 rk), (hbg, aI g 8 gn)]) dX3_restoreLatest_14 0 rfl (Nat.le_of_ble_eq_true rfl) rfl ?_
      refine r_aload_n C dX3_restoreLatest_17 0 rfl ?_
      refine r_aload_n C dX3_restoreLatest_18 0 rfl ?_
      refine gf_X3_21 C dX3_restoreLatest_19 0 rfl rfl ?_
      refine r_bipush C dX3_restoreLatest_22 rfl ?_
      refine r_iadd C dX3_restoreLatest_24 ?_
      refine r_iconst C dX3_restoreLatest_25 ?_
      refine r_isub C dX3_restoreLatest_26 ?_
      refine r_bipush C dX3_restoreLatest_27 rfl ?_
      refine r_irem C dX3_restoreLatest_29 (by omega) ?_
      refine r_eq (y := 0) (by decide) ?_
      refine pf_X3_21 C (ws' := [(hh, oB 3 [.ref hhq, .ref hhb, vi 0, vi (hz - 1)]), (hhq, aQ g 6 (q6 g0 g1 g2 g3 g4 g5)), (hhb, aI g 6 bz), (g0, oB 6 [vi ((gs 0).1), vi ((gs 0).2.1), .ref g0r, .ref g0x, .ref g0y, vi ((gs 0).2.2.2.2.2.1), vi ((gs 0).2.2.2.2.2.2.1), vi ((gs 0).2.2.2.2.2.2.2)]), (g0r, aI g 11 ((gs 0).2.2.1)), (g0x, aI g 10 ((gs 0).2.2.2.1)), (g0y, aI g 10 ((gs 0).2.2.2.2.1)), (g1, oB 6 [vi ((gs 1).1), vi ((gs 1).2.1), .ref g1r, .ref g1x, .ref g1y, vi ((gs 1).2.2.2.2.2.1), vi ((gs 1).2.2.2.2.2.2.1), vi ((gs 1).2.2.2.2.2.2.2)]), (g1r, aI g 11 ((gs 1).2.2.1)), (g1x, aI g 10 ((gs 1).2.2.2.1)), (g1y, aI g 10 ((gs 1).2.2.2.2.1)), (g2, oB 6 [vi ((gs 2).1), vi ((gs 2).2.1), .ref g2r, .ref g2x, .ref g2y, vi ((gs 2).2.2.2.2.2.1), vi ((gs 2).2.2.2.2.2.2.1), vi ((gs 2).2.2.2.2.2.2.2)]), (g2r, aI g 11 ((gs 2).2.2.1)), (g2x, aI g 10 ((gs 2).2.2.2.1)), (g2y, aI g 10 ((gs 2).2.2.2.2.1)), (g3, oB 6 [vi ((gs 3).1), vi ((gs 3).2.1), .ref g3r, .ref g3x, .ref g3y, vi ((gs 3).2.2.2.2.2.1), vi ((gs 3).2.2.2.2.2.2.1), vi ((gs 3).2.2.2.2.2.2.2)]), (g3r, aI g 11 ((gs 3).2.2.1)), (g3x, aI g 10 ((gs 3).2.2.2.1)), (g3y, aI g 10 ((gs 3).2.2.2.2.1)), (g4, oB 6 [vi ((gs 4).1), vi ((gs 4).2.1), .ref g4r, .ref g4x, .ref g4y, vi ((gs 4).2.2.2.2.2.1), vi ((gs 4).2.2.2.2.2.2.1), vi ((gs 4).2.2.2.2.2.2.2)]), (g4r, aI g 11 ((gs 4).2.2.1)), (g4x, aI g 10 ((gs 4).2.2.2.1)), (g4y, aI g 10 ((gs 4).2.2.2.2.1)), (g5, oB 6 [vi ((gs 5).1), vi ((gs 5).2.1), .ref g5r, .ref g5x, .ref g5y, vi ((gs 5).2.2.2.2.2.1), vi ((gs 5).2.2.2.2.2.2.1), vi ((gs 5).2.2.2.2.2.2.2)]), (g5r, aI g 11 ((gs 5).2.2.1)), (g5x, aI g 10 ((gs 5).2.2.2.1)), (g5y, aI g 10 ((gs 5).2.2.2.2.1)), (h0, oB 6 [vi w, vi h, .ref h0r, .ref h0x, .ref h0y, vi n, vi m, vi c]), (h0r, aI g 11 f), (h0x, aI g 10 X), (h0y, aI g 10 Y), (hb, oB 0 [.ref hbr, .ref hbg, vi bs]), (hbr, aI g 8 rk), (hbg, aI g 8 gn)]) dX3_restoreLatest_30 0 rfl (Nat.le_of_ble_eq_true rfl) rfl ?_
      refine r_aload_n C dX3_restoreLatest_33 1 rfl ?_
      refine r_aload_n C dX3_restoreLatest_34 0 rfl ?_
      refine gf_X3_11 C dX3_restoreLatest_35 0 rfl rfl ?_
      refine r_aload_n C dX3_restoreLatest_38 0 rfl ?_
      refine gf_X3_21 C dX3_restoreLatest_39 0 rfl rfl ?_
      refine r_aald C (b := g0) dX3_restoreLatest_42 1 rfl rfl (by omega) rfl ?_
      refine k_Vv C kv_X3_29 (fun sz => c_X7_copyFrom l g h0 h0r h0x h0y w h n m c f X Y g0 g0r g0x g0y ((gs 0).1) ((gs 0).2.1) ((gs 0).2.2.2.2.2.1) ((gs 0).2.2.2.2.2.2.1) ((gs 0).2.2.2.2.2.2.2) ((gs 0).2.2.1) ((gs 0).2.2.2.1) ((gs 0).2.2.2.2.1) sz) dX3_restoreLatest_43 rfl rfl rfl ⟨rfl, rfl⟩ 27 6 rfl rfl rfl [27, 28, 29, 30, 3, 4, 5, 6] rfl rfl (fun _ => rfl) (ws' := fun u_ => [(hh, oB 3 [.ref hhq, .ref hhb, vi 0, vi (hz - 1)]), (hhq, aQ g 6 (q6 g0 g1 g2 g3 g4 g5)), (hhb, aI g 6 bz), (g0, oB 6 [vi ((gs 0).1), vi ((gs 0).2.1), .ref g0r, .ref g0x, .ref g0y, vi ((gs 0).2.2.2.2.2.1), vi ((gs 0).2.2.2.2.2.2.1), vi ((gs 0).2.2.2.2.2.2.2)]), (g0r, aI g 11 ((gs 0).2.2.1)), (g0x, aI g 10 ((gs 0).2.2.2.1)), (g0y, aI g 10 ((gs 0).2.2.2.2.1)), (g1, oB 6 [vi ((gs 1).1), vi ((gs 1).2.1), .ref g1r, .ref g1x, .ref g1y, vi ((gs 1).2.2.2.2.2.1), vi ((gs 1).2.2.2.2.2.2.1), vi ((gs 1).2.2.2.2.2.2.2)]), (g1r, aI g 11 ((gs 1).2.2.1)), (g1x, aI g 10 ((gs 1).2.2.2.1)), (g1y, aI g 10 ((gs 1).2.2.2.2.1)), (g2, oB 6 [vi ((gs 2).1), vi ((gs 2).2.1), .ref g2r, .ref g2x, .ref g2y, vi ((gs 2).2.2.2.2.2.1), vi ((gs 2).2.2.2.2.2.2.1), vi ((gs 2).2.2.2.2.2.2.2)]), (g2r, aI g 11 ((gs 2).2.2.1)), (g2x, aI g 10 ((gs 2).2.2.2.1)), (g2y, aI g 10 ((gs 2).2.2.2.2.1)), (g3, oB 6 [vi ((gs 3).1), vi ((gs 3).2.1), .ref g3r, .ref g3x, .ref g3y, vi ((gs 3).2.2.2.2.2.1), vi ((gs 3).2.2.2.2.2.2.1), vi ((gs 3).2.2.2.2.2.2.2)]), (g3r, aI g 11 ((gs 3).2.2.1)), (g3x, aI g 10 ((gs 3).2.2.2.1)), (g3y, aI g 10 ((gs 3).2.2.2.2.1)), (g4, oB 6 [vi ((gs 4).1), vi ((gs 4).2.1), .ref g4r, .ref g4x, .ref g4y, vi ((gs 4).2.2.2.2.2.1), vi ((gs 4).2.2.2.2.2.2.1), vi ((gs 4).2.2.2.2.2.2.2)]), (g4r, aI g 11 ((gs 4).2.2.1)), (g4x, aI g 10 ((gs 4).2.2.2.1)), (g4y, aI g 10 ((gs 4).2.2.2.2.1)), (g5, oB 6 [vi ((gs 5).1), vi ((gs 5).2.1), .ref g5r, .ref g5x, .ref g5y, vi ((gs 5).2.2.2.2.2.1), vi ((gs 5).2.2.2.2.2.2.1), vi ((gs 5).2.2.2.2.2.2.2)]), (g5r, aI g 11 ((gs 5).2.2.1)), (g5x, aI g 10 ((gs 5).2.2.2.1)), (g5y, aI g 10 ((gs 5).2.2.2.2.1)), (h0, oB 6 [vi ((gs 0).1), vi ((gs 0).2.1), .ref h0r, .ref h0x, .ref h0y, vi ((gs 0).2.2.2.2.2.1), vi ((gs 0).2.2.2.2.2.2.1), vi ((gs 0).2.2.2.2.2.2.2)]), (h0r, aI g 11 ((gs 0).2.2.1)), (h0x, aI g 10 ((gs 0).2.2.2.1)), (h0y, aI g 10 ((gs 0).2.2.2.2.1)), (hb, oB 0 [.ref hbr, .ref hbg, vi bs]), (hbr, aI g 8 rk), (hbg, aI g 8 gn)]) (fun _ => rfl) (fun u_ p_43 => ?_)
      refine r_aload_n C dX3_restoreLatest_46 2 rfl ?_
      refine r_aload_n C dX3_restoreLatest_47 0 rfl ?_
      refine gf_X3_17 C dX3_restoreLatest_48 0 rfl rfl ?_
      refine r_aload_n C dX3_restoreLatest_51 0 rfl ?_
      refine gf_X3_21 C dX3_restoreLatest_52 0 rfl rfl ?_
      refine r_iald C dX3_restoreLatest_55 2 rfl rfl (by omega) ?_
      refine pf_X3_39 C (ws' := [(hh, oB 3 [.ref hhq, .ref hhb, vi 0, vi (hz - 1)]), (hhq, aQ g 6 (q6 g0 g1 g2 g3 g4 g5)), (hhb, aI g 6 bz), (g0, oB 6 [vi ((gs 0).1), vi ((gs 0).2.1), .ref g0r, .ref g0x, .ref g0y, vi ((gs 0).2.2.2.2.2.1), vi ((gs 0).2.2.2.2.2.2.1), vi ((gs 0).2.2.2.2.2.2.2)]), (g0r, aI g 11 ((gs 0).2.2.1)), (g0x, aI g 10 ((gs 0).2.2.2.1)), (g0y, aI g 10 ((gs 0).2.2.2.2.1)), (g1, oB 6 [vi ((gs 1).1), vi ((gs 1).2.1), .ref g1r, .ref g1x, .ref g1y, vi ((gs 1).2.2.2.2.2.1), vi ((gs 1).2.2.2.2.2.2.1), vi ((gs 1).2.2.2.2.2.2.2)]), (g1r, aI g 11 ((gs 1).2.2.1)), (g1x, aI g 10 ((gs 1).2.2.2.1)), (g1y, aI g 10 ((gs 1).2.2.2.2.1)), (g2, oB 6 [vi ((gs 2).1), vi ((gs 2).2.1), .ref g2r, .ref g2x, .ref g2y, vi ((gs 2).2.2.2.2.2.1), vi ((gs 2).2.2.2.2.2.2.1), vi ((gs 2).2.2.2.2.2.2.2)]), (g2r, aI g 11 ((gs 2).2.2.1)), (g2x, aI g 10 ((gs 2).2.2.2.1)), (g2y, aI g 10 ((gs 2).2.2.2.2.1)), (g3, oB 6 [vi ((gs 3).1), vi ((gs 3).2.1), .ref g3r, .ref g3x, .ref g3y, vi ((gs 3).2.2.2.2.2.1), vi ((gs 3).2.2.2.2.2.2.1), vi ((gs 3).2.2.2.2.2.2.2)]), (g3r, aI g 11 ((gs 3).2.2.1)), (g3x, aI g 10 ((gs 3).2.2.2.1)), (g3y, aI g 10 ((gs 3).2.2.2.2.1)), (g4, oB 6 [vi ((gs 4).1), vi ((gs 4).2.1), .ref g4r, .ref g4x, .ref g4y, vi ((gs 4).2.2.2.2.2.1), vi ((gs 4).2.2.2.2.2.2.1), vi ((gs 4).2.2.2.2.2.2.2)]), (g4r, aI g 11 ((gs 4).2.2.1)), (g4x, aI g 10 ((gs 4).2.2.2.1)), (g4y, aI g 10 ((gs 4).2.2.2.2.1)), (g5, oB 6 [vi ((gs 5).1), vi ((gs 5).2.1), .ref g5r, .ref g5x, .ref g5y, vi ((gs 5).2.2.2.2.2.1), vi ((gs 5).2.2.2.2.2.2.1), vi ((gs 5).2.2.2.2.2.2.2)]), (g5r, aI g 11 ((gs 5).2.2.1)), (g5x, aI g 10 ((gs 5).2.2.2.1)), (g5y, aI g 10 ((gs 5).2.2.2.2.1)), (h0, oB 6 [vi ((gs 0).1), vi ((gs 0).2.1), .ref h0r, .ref h0x, .ref h0y, vi ((gs 0).2.2.2.2.2.1), vi ((gs 0).2.2.2.2.2.2.1), vi ((gs 0).2.2.2.2.2.2.2)]), (h0r, aI g 11 ((gs 0).2.2.1)), (h0x, aI g 10 ((gs 0).2.2.2.1)), (h0y, aI g 10 ((gs 0).2.2.2.2.1)), (hb, oB 0 [.ref hbr, .ref hbg, vi (bz 0)]), (hbr, aI g 8 rk), (hbg, aI g 8 gn)]) dX3_restoreLatest_56 31 rfl (Nat.le_of_ble_eq_true rfl) rfl ?_
      exact e_v C () dX3_restoreLatest_59 (trivial) rfl
  · skip
    refine r_aload_n C dX3_restoreLatest_0 0 rfl ?_
    refine gf_X3_25 C dX3_restoreLatest_1 0 rfl rfl ?_
    refine r_if_le C 59 dX3_restoreLatest_4 rfl (by omega) (fun c_3 => ?_) (fun c_3 => ?_)
    · skip
      exact absurd hhz (by omega)
    · skip
      refine r_aload_n C dX3_restoreLatest_7 0 rfl ?_
      refine r_dup C dX3_restoreLatest_8 rfl ?_
      refine gf_X3_25 C dX3_restoreLatest_9 0 rfl rfl ?_
      refine r_iconst C dX3_restoreLatest_12 ?_
      refine r_isub C dX3_restoreLatest_13 ?_
      refine pf_X3_25 C (ws' := [(hh, oB 3 [.ref hhq, .ref hhb, vi 2, vi (hz - 1)]), (hhq, aQ g 6 (q6 g0 g1 g2 g3 g4 g5)), (hhb, aI g 6 bz), (g0, oB 6 [vi ((gs 0).1), vi ((gs 0).2.1), .ref g0r, .ref g0x, .ref g0y, vi ((gs 0).2.2.2.2.2.1), vi ((gs 0).2.2.2.2.2.2.1), vi ((gs 0).2.2.2.2.2.2.2)]), (g0r, aI g 11 ((gs 0).2.2.1)), (g0x, aI g 10 ((gs 0).2.2.2.1)), (g0y, aI g 10 ((gs 0).2.2.2.2.1)), (g1, oB 6 [vi ((gs 1).1), vi ((gs 1).2.1), .ref g1r, .ref g1x, .ref g1y, vi ((gs 1).2.2.2.2.2.1), vi ((gs 1).2.2.2.2.2.2.1), vi ((gs 1).2.2.2.2.2.2.2)]), (g1r, aI g 11 ((gs 1).2.2.1)), (g1x, aI g 10 ((gs 1).2.2.2.1)), (g1y, aI g 10 ((gs 1).2.2.2.2.1)), (g2, oB 6 [vi ((gs 2).1), vi ((gs 2).2.1), .ref g2r, .ref g2x, .ref g2y, vi ((gs 2).2.2.2.2.2.1), vi ((gs 2).2.2.2.2.2.2.1), vi ((gs 2).2.2.2.2.2.2.2)]), (g2r, aI g 11 ((gs 2).2.2.1)), (g2x, aI g 10 ((gs 2).2.2.2.1)), (g2y, aI g 10 ((gs 2).2.2.2.2.1)), (g3, oB 6 [vi ((gs 3).1), vi ((gs 3).2.1), .ref g3r, .ref g3x, .ref g3y, vi ((gs 3).2.2.2.2.2.1), vi ((gs 3).2.2.2.2.2.2.1), vi ((gs 3).2.2.2.2.2.2.2)]), (g3r, aI g 11 ((gs 3).2.2.1)), (g3x, aI g 10 ((gs 3).2.2.2.1)), (g3y, aI g 10 ((gs 3).2.2.2.2.1)), (g4, oB 6 [vi ((gs 4).1), vi ((gs 4).2.1), .ref g4r, .ref g4x, .ref g4y, vi ((gs 4).2.2.2.2.2.1), vi ((gs 4).2.2.2.2.2.2.1), vi ((gs 4).2.2.2.2.2.2.2)]), (g4r, aI g 11 ((gs 4).2.2.1)), (g4x, aI g 10 ((gs 4).2.2.2.1)), (g4y, aI g 10 ((gs 4).2.2.2.2.1)), (g5, oB 6 [vi ((gs 5).1), vi ((gs 5).2.1), .ref g5r, .ref g5x, .ref g5y, vi ((gs 5).2.2.2.2.2.1), vi ((gs 5).2.2.2.2.2.2.1), vi ((gs 5).2.2.2.2.2.2.2)]), (g5r, aI g 11 ((gs 5).2.2.1)), (g5x, aI g 10 ((gs 5).2.2.2.1)), (g5y, aI g 10 ((gs 5).2.2.2.2.1)), (h0, oB 6 [vi w, vi h, .ref h0r, .ref h0x, .ref h0y, vi n, vi m, vi c]), (h0r, aI g 11 f), (h0x, aI g 10 X), (h0y, aI g 10 Y), (hb, oB 0 [.ref hbr, .ref hbg, vi bs]), (hbr, aI g 8 rk), (hbg, aI g 8 gn)]) dX3_restoreLatest_14 0 rfl (Nat.le_of_ble_eq_true rfl) rfl ?_
      refine r_aload_n C dX3_restoreLatest_17 0 rfl ?_
      refine r_aload_n C dX3_restoreLatest_18 0 rfl ?_
      refine gf_X3_21 C dX3_restoreLatest_19 0 rfl rfl ?_
      refine r_bipush C dX3_restoreLatest_22 rfl ?_
      refine r_iadd C dX3_restoreLatest_24 ?_
      refine r_iconst C dX3_restoreLatest_25 ?_
      refine r_isub C dX3_restoreLatest_26 ?_
      refine r_bipush C dX3_restoreLatest_27 rfl ?_
      refine r_irem C dX3_restoreLatest_29 (by omega) ?_
      refine r_eq (y := 1) (by decide) ?_
      refine pf_X3_21 C (ws' := [(hh, oB 3 [.ref hhq, .ref hhb, vi 1, vi (hz - 1)]), (hhq, aQ g 6 (q6 g0 g1 g2 g3 g4 g5)), (hhb, aI g 6 bz), (g0, oB 6 [vi ((gs 0).1), vi ((gs 0).2.1), .ref g0r, .ref g0x, .ref g0y, vi ((gs 0).2.2.2.2.2.1), vi ((gs 0).2.2.2.2.2.2.1), vi ((gs 0).2.2.2.2.2.2.2)]), (g0r, aI g 11 ((gs 0).2.2.1)), (g0x, aI g 10 ((gs 0).2.2.2.1)), (g0y, aI g 10 ((gs 0).2.2.2.2.1)), (g1, oB 6 [vi ((gs 1).1), vi ((gs 1).2.1), .ref g1r, .ref g1x, .ref g1y, vi ((gs 1).2.2.2.2.2.1), vi ((gs 1).2.2.2.2.2.2.1), vi ((gs 1).2.2.2.2.2.2.2)]), (g1r, aI g 11 ((gs 1).2.2.1)), (g1x, aI g 10 ((gs 1).2.2.2.1)), (g1y, aI g 10 ((gs 1).2.2.2.2.1)), (g2, oB 6 [vi ((gs 2).1), vi ((gs 2).2.1), .ref g2r, .ref g2x, .ref g2y, vi ((gs 2).2.2.2.2.2.1), vi ((gs 2).2.2.2.2.2.2.1), vi ((gs 2).2.2.2.2.2.2.2)]), (g2r, aI g 11 ((gs 2).2.2.1)), (g2x, aI g 10 ((gs 2).2.2.2.1)), (g2y, aI g 10 ((gs 2).2.2.2.2.1)), (g3, oB 6 [vi ((gs 3).1), vi ((gs 3).2.1), .ref g3r, .ref g3x, .ref g3y, vi ((gs 3).2.2.2.2.2.1), vi ((gs 3).2.2.2.2.2.2.1), vi ((gs 3).2.2.2.2.2.2.2)]), (g3r, aI g 11 ((gs 3).2.2.1)), (g3x, aI g 10 ((gs 3).2.2.2.1)), (g3y, aI g 10 ((gs 3).2.2.2.2.1)), (g4, oB 6 [vi ((gs 4).1), vi ((gs 4).2.1), .ref g4r, .ref g4x, .ref g4y, vi ((gs 4).2.2.2.2.2.1), vi ((gs 4).2.2.2.2.2.2.1), vi ((gs 4).2.2.2.2.2.2.2)]), (g4r, aI g 11 ((gs 4).2.2.1)), (g4x, aI g 10 ((gs 4).2.2.2.1)), (g4y, aI g 10 ((gs 4).2.2.2.2.1)), (g5, oB 6 [vi ((gs 5).1), vi ((gs 5).2.1), .ref g5r, .ref g5x, .ref g5y, vi ((gs 5).2.2.2.2.2.1), vi ((gs 5).2.2.2.2.2.2.1), vi ((gs 5).2.2.2.2.2.2.2)]), (g5r, aI g 11 ((gs 5).2.2.1)), (g5x, aI g 10 ((gs 5).2.2.2.1)), (g5y, aI g 10 ((gs 5).2.2.2.2.1)), (h0, oB 6 [vi w, vi h, .ref h0r, .ref h0x, .ref h0y, vi n, vi m, vi c]), (h0r, aI g 11 f), (h0x, aI g 10 X), (h0y, aI g 10 Y), (hb, oB 0 [.ref hbr, .ref hbg, vi bs]), (hbr, aI g 8 rk), (hbg, aI g 8 gn)]) dX3_restoreLatest_30 0 rfl (Nat.le_of_ble_eq_true rfl) rfl ?_
      refine r_aload_n C dX3_restoreLatest_33 1 rfl ?_
      refine r_aload_n C dX3_restoreLatest_34 0 rfl ?_
      refine gf_X3_11 C dX3_restoreLatest_35 0 rfl rfl ?_
      refine r_aload_n C dX3_restoreLatest_38 0 rfl ?_
      refine gf_X3_21 C dX3_restoreLatest_39 0 rfl rfl ?_
      refine r_aald C (b := g1) dX3_restoreLatest_42 1 rfl rfl (by omega) rfl ?_
      refine k_Vv C kv_X3_29 (fun sz => c_X7_copyFrom l g h0 h0r h0x h0y w h n m c f X Y g1 g1r g1x g1y ((gs 1).1) ((gs 1).2.1) ((gs 1).2.2.2.2.2.1) ((gs 1).2.2.2.2.2.2.1) ((gs 1).2.2.2.2.2.2.2) ((gs 1).2.2.1) ((gs 1).2.2.2.1) ((gs 1).2.2.2.2.1) sz) dX3_restoreLatest_43 rfl rfl rfl ⟨rfl, rfl⟩ 27 6 rfl rfl rfl [27, 28, 29, 30, 7, 8, 9, 10] rfl rfl (fun _ => rfl) (ws' := fun u_ => [(hh, oB 3 [.ref hhq, .ref hhb, vi 1, vi (hz - 1)]), (hhq, aQ g 6 (q6 g0 g1 g2 g3 g4 g5)), (hhb, aI g 6 bz), (g0, oB 6 [vi ((gs 0).1), vi ((gs 0).2.1), .ref g0r, .ref g0x, .ref g0y, vi ((gs 0).2.2.2.2.2.1), vi ((gs 0).2.2.2.2.2.2.1), vi ((gs 0).2.2.2.2.2.2.2)]), (g0r, aI g 11 ((gs 0).2.2.1)), (g0x, aI g 10 ((gs 0).2.2.2.1)), (g0y, aI g 10 ((gs 0).2.2.2.2.1)), (g1, oB 6 [vi ((gs 1).1), vi ((gs 1).2.1), .ref g1r, .ref g1x, .ref g1y, vi ((gs 1).2.2.2.2.2.1), vi ((gs 1).2.2.2.2.2.2.1), vi ((gs 1).2.2.2.2.2.2.2)]), (g1r, aI g 11 ((gs 1).2.2.1)), (g1x, aI g 10 ((gs 1).2.2.2.1)), (g1y, aI g 10 ((gs 1).2.2.2.2.1)), (g2, oB 6 [vi ((gs 2).1), vi ((gs 2).2.1), .ref g2r, .ref g2x, .ref g2y, vi ((gs 2).2.2.2.2.2.1), vi ((gs 2).2.2.2.2.2.2.1), vi ((gs 2).2.2.2.2.2.2.2)]), (g2r, aI g 11 ((gs 2).2.2.1)), (g2x, aI g 10 ((gs 2).2.2.2.1)), (g2y, aI g 10 ((gs 2).2.2.2.2.1)), (g3, oB 6 [vi ((gs 3).1), vi ((gs 3).2.1), .ref g3r, .ref g3x, .ref g3y, vi ((gs 3).2.2.2.2.2.1), vi ((gs 3).2.2.2.2.2.2.1), vi ((gs 3).2.2.2.2.2.2.2)]), (g3r, aI g 11 ((gs 3).2.2.1)), (g3x, aI g 10 ((gs 3).2.2.2.1)), (g3y, aI g 10 ((gs 3).2.2.2.2.1)), (g4, oB 6 [vi ((gs 4).1), vi ((gs 4).2.1), .ref g4r, .ref g4x, .ref g4y, vi ((gs 4).2.2.2.2.2.1), vi ((gs 4).2.2.2.2.2.2.1), vi ((gs 4).2.2.2.2.2.2.2)]), (g4r, aI g 11 ((gs 4).2.2.1)), (g4x, aI g 10 ((gs 4).2.2.2.1)), (g4y, aI g 10 ((gs 4).2.2.2.2.1)), (g5, oB 6 [vi ((gs 5).1), vi ((gs 5).2.1), .ref g5r, .ref g5x, .ref g5y, vi ((gs 5).2.2.2.2.2.1), vi ((gs 5).2.2.2.2.2.2.1), vi ((gs 5).2.2.2.2.2.2.2)]), (g5r, aI g 11 ((gs 5).2.2.1)), (g5x, aI g 10 ((gs 5).2.2.2.1)), (g5y, aI g 10 ((gs 5).2.2.2.2.1)), (h0, oB 6 [vi ((gs 1).1), vi ((gs 1).2.1), .ref h0r, .ref h0x, .ref h0y, vi ((gs 1).2.2.2.2.2.1), vi ((gs 1).2.2.2.2.2.2.1), vi ((gs 1).2.2.2.2.2.2.2)]), (h0r, aI g 11 ((gs 1).2.2.1)), (h0x, aI g 10 ((gs 1).2.2.2.1)), (h0y, aI g 10 ((gs 1).2.2.2.2.1)), (hb, oB 0 [.ref hbr, .ref hbg, vi bs]), (hbr, aI g 8 rk), (hbg, aI g 8 gn)]) (fun _ => rfl) (fun u_ p_43 => ?_)
      refine r_aload_n C dX3_restoreLatest_46 2 rfl ?_
      refine r_aload_n C dX3_restoreLatest_47 0 rfl ?_
      refine gf_X3_17 C dX3_restoreLatest_48 0 rfl rfl ?_
      refine r_aload_n C dX3_restoreLatest_51 0 rfl ?_
      refine gf_X3_21 C dX3_restoreLatest_52 0 rfl rfl ?_
      refine r_iald C dX3_restoreLatest_55 2 rfl rfl (by omega) ?_
      refine pf_X3_39 C (ws' := [(hh, oB 3 [.ref hhq, .ref hhb, vi 1, vi (hz - 1)]), (hhq, aQ g 6 (q6 g0 g1 g2 g3 g4 g5)), (hhb, aI g 6 bz), (g0, oB 6 [vi ((gs 0).1), vi ((gs 0).2.1), .ref g0r, .ref g0x, .ref g0y, vi ((gs 0).2.2.2.2.2.1), vi ((gs 0).2.2.2.2.2.2.1), vi ((gs 0).2.2.2.2.2.2.2)]), (g0r, aI g 11 ((gs 0).2.2.1)), (g0x, aI g 10 ((gs 0).2.2.2.1)), (g0y, aI g 10 ((gs 0).2.2.2.2.1)), (g1, oB 6 [vi ((gs 1).1), vi ((gs 1).2.1), .ref g1r, .ref g1x, .ref g1y, vi ((gs 1).2.2.2.2.2.1), vi ((gs 1).2.2.2.2.2.2.1), vi ((gs 1).2.2.2.2.2.2.2)]), (g1r, aI g 11 ((gs 1).2.2.1)), (g1x, aI g 10 ((gs 1).2.2.2.1)), (g1y, aI g 10 ((gs 1).2.2.2.2.1)), (g2, oB 6 [vi ((gs 2).1), vi ((gs 2).2.1), .ref g2r, .ref g2x, .ref g2y, vi ((gs 2).2.2.2.2.2.1), vi ((gs 2).2.2.2.2.2.2.1), vi ((gs 2).2.2.2.2.2.2.2)]), (g2r, aI g 11 ((gs 2).2.2.1)), (g2x, aI g 10 ((gs 2).2.2.2.1)), (g2y, aI g 10 ((gs 2).2.2.2.2.1)), (g3, oB 6 [vi ((gs 3).1), vi ((gs 3).2.1), .ref g3r, .ref g3x, .ref g3y, vi ((gs 3).2.2.2.2.2.1), vi ((gs 3).2.2.2.2.2.2.1), vi ((gs 3).2.2.2.2.2.2.2)]), (g3r, aI g 11 ((gs 3).2.2.1)), (g3x, aI g 10 ((gs 3).2.2.2.1)), (g3y, aI g 10 ((gs 3).2.2.2.2.1)), (g4, oB 6 [vi ((gs 4).1), vi ((gs 4).2.1), .ref g4r, .ref g4x, .ref g4y, vi ((gs 4).2.2.2.2.2.1), vi ((gs 4).2.2.2.2.2.2.1), vi ((gs 4).2.2.2.2.2.2.2)]), (g4r, aI g 11 ((gs 4).2.2.1)), (g4x, aI g 10 ((gs 4).2.2.2.1)), (g4y, aI g 10 ((gs 4).2.2.2.2.1)), (g5, oB 6 [vi ((gs 5).1), vi ((gs 5).2.1), .ref g5r, .ref g5x, .ref g5y, vi ((gs 5).2.2.2.2.2.1), vi ((gs 5).2.2.2.2.2.2.1), vi ((gs 5).2.2.2.2.2.2.2)]), (g5r, aI g 11 ((gs 5).2.2.1)), (g5x, aI g 10 ((gs 5).2.2.2.1)), (g5y, aI g 10 ((gs 5).2.2.2.2.1)), (h0, oB 6 [vi ((gs 1).1), vi ((gs 1).2.1), .ref h0r, .ref h0x, .ref h0y, vi ((gs 1).2.2.2.2.2.1), vi ((gs 1).2.2.2.2.2.2.1), vi ((gs 1).2.2.2.2.2.2.2)]), (h0r, aI g 11 ((gs 1).2.2.1)), (h0x, aI g 10 ((gs 1).2.2.2.1)), (h0y, aI g 10 ((gs 1).2.2.2.2.1)), (hb, oB 0 [.ref hbr, .ref hbg, vi (bz 1)]), (hbr, aI g 8 rk), (hbg, aI g 8 gn)]) dX3_restoreLatest_56 31 rfl (Nat.le_of_ble_eq_true rfl) rfl ?_
      exact e_v C () dX3_restoreLatest_59 (trivial) rfl
  · skip
    refine r_aload_n C dX3_restoreLatest_0 0 rfl ?_
    refine gf_X3_25 C dX3_restoreLatest_1 0 rfl rfl ?_
    refine r_if_le C 59 dX3_restoreLatest_4 rfl (by omega) (fun c_4 => ?_) (fun c_4 => ?_)
    · skip
      exact absurd hhz (by omega)
    · skip
      refine r_aload_n C dX3_restoreLatest_7 0 rfl ?_
      refine r_dup C dX3_restoreLatest_8 rfl ?_
      refine gf_X3_25 C dX3_restoreLatest_9 0 rfl rfl ?_
      refine r_iconst C dX3_restoreLatest_12 ?_
      refine r_isub C dX3_restoreLatest_13 ?_
      refine pf_X3_25 C (ws' := [(hh, oB 3 [.ref hhq, .ref hhb, vi 3, vi (hz - 1)]), (hhq, aQ g 6 (q6 g0 g1 g2 g3 g4 g5)), (hhb, aI g 6 bz), (g0, oB 6 [vi ((gs 0).1), vi ((gs 0).2.1), .ref g0r, .ref g0x, .ref g0y, vi ((gs 0).2.2.2.2.2.1), vi ((gs 0).2.2.2.2.2.2.1), vi ((gs 0).2.2.2.2.2.2.2)]), (g0r, aI g 11 ((gs 0).2.2.1)), (g0x, aI g 10 ((gs 0).2.2.2.1)), (g0y, aI g 10 ((gs 0).2.2.2.2.1)), (g1, oB 6 [vi ((gs 1).1), vi ((gs 1).2.1), .ref g1r, .ref g1x, .ref g1y, vi ((gs 1).2.2.2.2.2.1), vi ((gs 1).2.2.2.2.2.2.1), vi ((gs 1).2.2.2.2.2.2.2)]), (g1r, aI g 11 ((gs 1).2.2.1)), (g1x, aI g 10 ((gs 1).2.2.2.1)), (g1y, aI g 10 ((gs 1).2.2.2.2.1)), (g2, oB 6 [vi ((gs 2).1), vi ((gs 2).2.1), .ref g2r, .ref g2x, .ref g2y, vi ((gs 2).2.2.2.2.2.1), vi ((gs 2).2.2.2.2.2.2.1), vi ((gs 2).2.2.2.2.2.2.2)]), (g2r, aI g 11 ((gs 2).2.2.1)), (g2x, aI g 10 ((gs 2).2.2.2.1)), (g2y, aI g 10 ((gs 2).2.2.2.2.1)), (g3, oB 6 [vi ((gs 3).1), vi ((gs 3).2.1), .ref g3r, .ref g3x, .ref g3y, vi ((gs 3).2.2.2.2.2.1), vi ((gs 3).2.2.2.2.2.2.1), vi ((gs 3).2.2.2.2.2.2.2)]), (g3r, aI g 11 ((gs 3).2.2.1)), (g3x, aI g 10 ((gs 3).2.2.2.1)), (g3y, aI g 10 ((gs 3).2.2.2.2.1)), (g4, oB 6 [vi ((gs 4).1), vi ((gs 4).2.1), .ref g4r, .ref g4x, .ref g4y, vi ((gs 4).2.2.2.2.2.1), vi ((gs 4).2.2.2.2.2.2.1), vi ((gs 4).2.2.2.2.2.2.2)]), (g4r, aI g 11 ((gs 4).2.2.1)), (g4x, aI g 10 ((gs 4).2.2.2.1)), (g4y, aI g 10 ((gs 4).2.2.2.2.1)), (g5, oB 6 [vi ((gs 5).1), vi ((gs 5).2.1), .ref g5r, .ref g5x, .ref g5y, vi ((gs 5).2.2.2.2.2.1), vi ((gs 5).2.2.2.2.2.2.1), vi ((gs 5).2.2.2.2.2.2.2)]), (g5r, aI g 11 ((gs 5).2.2.1)), (g5x, aI g 10 ((gs 5).2.2.2.1)), (g5y, aI g 10 ((gs 5).2.2.2.2.1)), (h0, oB 6 [vi w, vi h, .ref h0r, .ref h0x, .ref h0y, vi n, vi m, vi c]), (h0r, aI g 11 f), (h0x, aI g 10 X), (h0y, aI g 10 Y), (hb, oB 0 [.ref hbr, .ref hbg, vi bs]), (hbr, aI g 8 rk), (hbg, aI g 8 gn)]) dX3_restoreLatest_14 0 rfl (Nat.le_of_ble_eq_true rfl) rfl ?_
      refine r_aload_n C dX3_restoreLatest_17 0 rfl ?_
      refine r_aload_n C dX3_restoreLatest_18 0 rfl ?_
      refine gf_X3_21 C dX3_restoreLatest_19 0 rfl rfl ?_
      refine r_bipush C dX3_restoreLatest_22 rfl ?_
      refine r_iadd C dX3_restoreLatest_24 ?_
      refine r_iconst C dX3_restoreLatest_25 ?_
      refine r_isub C dX3_restoreLatest_26 ?_
      refine r_bipush C dX3_restoreLatest_27 rfl ?_
      refine r_irem C dX3_restoreLatest_29 (by omega) ?_
      refine r_eq (y := 2) (by decide) ?_
      refine pf_X3_21 C (ws' := [(hh, oB 3 [.ref hhq, .ref hhb, vi 2, vi (hz - 1)]), (hhq, aQ g 6 (q6 g0 g1 g2 g3 g4 g5)), (hhb, aI g 6 bz), (g0, oB 6 [vi ((gs 0).1), vi ((gs 0).2.1), .ref g0r, .ref g0x, .ref g0y, vi ((gs 0).2.2.2.2.2.1), vi ((gs 0).2.2.2.2.2.2.1), vi ((gs 0).2.2.2.2.2.2.2)]), (g0r, aI g 11 ((gs 0).2.2.1)), (g0x, aI g 10 ((gs 0).2.2.2.1)), (g0y, aI g 10 ((gs 0).2.2.2.2.1)), (g1, oB 6 [vi ((gs 1).1), vi ((gs 1).2.1), .ref g1r, .ref g1x, .ref g1y, vi ((gs 1).2.2.2.2.2.1), vi ((gs 1).2.2.2.2.2.2.1), vi ((gs 1).2.2.2.2.2.2.2)]), (g1r, aI g 11 ((gs 1).2.2.1)), (g1x, aI g 10 ((gs 1).2.2.2.1)), (g1y, aI g 10 ((gs 1).2.2.2.2.1)), (g2, oB 6 [vi ((gs 2).1), vi ((gs 2).2.1), .ref g2r, .ref g2x, .ref g2y, vi ((gs 2).2.2.2.2.2.1), vi ((gs 2).2.2.2.2.2.2.1), vi ((gs 2).2.2.2.2.2.2.2)]), (g2r, aI g 11 ((gs 2).2.2.1)), (g2x, aI g 10 ((gs 2).2.2.2.1)), (g2y, aI g 10 ((gs 2).2.2.2.2.1)), (g3, oB 6 [vi ((gs 3).1), vi ((gs 3).2.1), .ref g3r, .ref g3x, .ref g3y, vi ((gs 3).2.2.2.2.2.1), vi ((gs 3).2.2.2.2.2.2.1), vi ((gs 3).2.2.2.2.2.2.2)]), (g3r, aI g 11 ((gs 3).2.2.1)), (g3x, aI g 10 ((gs 3).2.2.2.1)), (g3y, aI g 10 ((gs 3).2.2.2.2.1)), (g4, oB 6 [vi ((gs 4).1), vi ((gs 4).2.1), .ref g4r, .ref g4x, .ref g4y, vi ((gs 4).2.2.2.2.2.1), vi ((gs 4).2.2.2.2.2.2.1), vi ((gs 4).2.2.2.2.2.2.2)]), (g4r, aI g 11 ((gs 4).2.2.1)), (g4x, aI g 10 ((gs 4).2.2.2.1)), (g4y, aI g 10 ((gs 4).2.2.2.2.1)), (g5, oB 6 [vi ((gs 5).1), vi ((gs 5).2.1), .ref g5r, .ref g5x, .ref g5y, vi ((gs 5).2.2.2.2.2.1), vi ((gs 5).2.2.2.2.2.2.1), vi ((gs 5).2.2.2.2.2.2.2)]), (g5r, aI g 11 ((gs 5).2.2.1)), (g5x, aI g 10 ((gs 5).2.2.2.1)), (g5y, aI g 10 ((gs 5).2.2.2.2.1)), (h0, oB 6 [vi w, vi h, .ref h0r, .ref h0x, .ref h0y, vi n, vi m, vi c]), (h0r, aI g 11 f), (h0x, aI g 10 X), (h0y, aI g 10 Y), (hb, oB 0 [.ref hbr, .ref hbg, vi bs]), (hbr, aI g 8 rk), (hbg, aI g 8 gn)]) dX3_restoreLatest_30 0 rfl (Nat.le_of_ble_eq_true rfl) rfl ?_
      refine r_aload_n C dX3_restoreLatest_33 1 rfl ?_
      refine r_aload_n C dX3_restoreLatest_34 0 rfl ?_
      refine gf_X3_11 C dX3_restoreLatest_35 0 rfl rfl ?_
      refine r_aload_n C dX3_restoreLatest_38 0 rfl ?_
      refine gf_X3_21 C dX3_restoreLatest_39 0 rfl rfl ?_
      refine r_aald C (b := g2) dX3_restoreLatest_42 1 rfl rfl (by omega) rfl ?_
      refine k_Vv C kv_X3_29 (fun sz => c_X7_copyFrom l g h0 h0r h0x h0y w h n m c f X Y g2 g2r g2x g2y ((gs 2).1) ((gs 2).2.1) ((gs 2).2.2.2.2.2.1) ((gs 2).2.2.2.2.2.2.1) ((gs 2).2.2.2.2.2.2.2) ((gs 2).2.2.1) ((gs 2).2.2.2.1) ((gs 2).2.2.2.2.1) sz) dX3_restoreLatest_43 rfl rfl rfl ⟨rfl, rfl⟩ 27 6 rfl rfl rfl [27, 28, 29, 30, 11, 12, 13, 14] rfl rfl (fun _ => rfl) (ws' := fun u_ => [(hh, oB 3 [.ref hhq, .ref hhb, vi 2, vi (hz - 1)]), (hhq, aQ g 6 (q6 g0 g1 g2 g3 g4 g5)), (hhb, aI g 6 bz), (g0, oB 6 [vi ((gs 0).1), vi ((gs 0).2.1), .ref g0r, .ref g0x, .ref g0y, vi ((gs 0).2.2.2.2.2.1), vi ((gs 0).2.2.2.2.2.2.1), vi ((gs 0).2.2.2.2.2.2.2)]), (g0r, aI g 11 ((gs 0).2.2.1)), (g0x, aI g 10 ((gs 0).2.2.2.1)), (g0y, aI g 10 ((gs 0).2.2.2.2.1)), (g1, oB 6 [vi ((gs 1).1), vi ((gs 1).2.1), .ref g1r, .ref g1x, .ref g1y, vi ((gs 1).2.2.2.2.2.1), vi ((gs 1).2.2.2.2.2.2.1), vi ((gs 1).2.2.2.2.2.2.2)]), (g1r, aI g 11 ((gs 1).2.2.1)), (g1x, aI g 10 ((gs 1).2.2.2.1)), (g1y, aI g 10 ((gs 1).2.2.2.2.1)), (g2, oB 6 [vi ((gs 2).1), vi ((gs 2).2.1), .ref g2r, .ref g2x, .ref g2y, vi ((gs 2).2.2.2.2.2.1), vi ((gs 2).2.2.2.2.2.2.1), vi ((gs 2).2.2.2.2.2.2.2)]), (g2r, aI g 11 ((gs 2).2.2.1)), (g2x, aI g 10 ((gs 2).2.2.2.1)), (g2y, aI g 10 ((gs 2).2.2.2.2.1)), (g3, oB 6 [vi ((gs 3).1), vi ((gs 3).2.1), .ref g3r, .ref g3x, .ref g3y, vi ((gs 3).2.2.2.2.2.1), vi ((gs 3).2.2.2.2.2.2.1), vi ((gs 3).2.2.2.2.2.2.2)]), (g3r, aI g 11 ((gs 3).2.2.1)), (g3x, aI g 10 ((gs 3).2.2.2.1)), (g3y, aI g 10 ((gs 3).2.2.2.2.1)), (g4, oB 6 [vi ((gs 4).1), vi ((gs 4).2.1), .ref g4r, .ref g4x, .ref g4y, vi ((gs 4).2.2.2.2.2.1), vi ((gs 4).2.2.2.2.2.2.1), vi ((gs 4).2.2.2.2.2.2.2)]), (g4r, aI g 11 ((gs 4).2.2.1)), (g4x, aI g 10 ((gs 4).2.2.2.1)), (g4y, aI g 10 ((gs 4).2.2.2.2.1)), (g5, oB 6 [vi ((gs 5).1), vi ((gs 5).2.1), .ref g5r, .ref g5x, .ref g5y, vi ((gs 5).2.2.2.2.2.1), vi ((gs 5).2.2.2.2.2.2.1), vi ((gs 5).2.2.2.2.2.2.2)]), (g5r, aI g 11 ((gs 5).2.2.1)), (g5x, aI g 10 ((gs 5).2.2.2.1)), (g5y, aI g 10 ((gs 5).2.2.2.2.1)), (h0, oB 6 [vi ((gs 2).1), vi ((gs 2).2.1), .ref h0r, .ref h0x, .ref h0y, vi ((gs 2).2.2.2.2.2.1), vi ((gs 2).2.2.2.2.2.2.1), vi ((gs 2).2.2.2.2.2.2.2)]), (h0r, aI g 11 ((gs 2).2.2.1)), (h0x, aI g 10 ((gs 2).2.2.2.1)), (h0y, aI g 10 ((gs 2).2.2.2.2.1)), (hb, oB 0 [.ref hbr, .ref hbg, vi bs]), (hbr, aI g 8 rk), (hbg, aI g 8 gn)]) (fun _ => rfl) (fun u_ p_43 => ?_)
      refine r_aload_n C dX3_restoreLatest_46 2 rfl ?_
      refine r_aload_n C dX3_restoreLatest_47 0 rfl ?_
      refine gf_X3_17 C dX3_restoreLatest_48 0 rfl rfl ?_
      refine r_aload_n C dX3_restoreLatest_51 0 rfl ?_
      refine gf_X3_21 C dX3_restoreLatest_52 0 rfl rfl ?_
      refine r_iald C dX3_restoreLatest_55 2 rfl rfl (by omega) ?_
      refine pf_X3_39 C (ws' := [(hh, oB 3 [.ref hhq, .ref hhb, vi 2, vi (hz - 1)]), (hhq, aQ g 6 (q6 g0 g1 g2 g3 g4 g5)), (hhb, aI g 6 bz), (g0, oB 6 [vi ((gs 0).1), vi ((gs 0).2.1), .ref g0r, .ref g0x, .ref g0y, vi ((gs 0).2.2.2.2.2.1), vi ((gs 0).2.2.2.2.2.2.1), vi ((gs 0).2.2.2.2.2.2.2)]), (g0r, aI g 11 ((gs 0).2.2.1)), (g0x, aI g 10 ((gs 0).2.2.2.1)), (g0y, aI g 10 ((gs 0).2.2.2.2.1)), (g1, oB 6 [vi ((gs 1).1), vi ((gs 1).2.1), .ref g1r, .ref g1x, .ref g1y, vi ((gs 1).2.2.2.2.2.1), vi ((gs 1).2.2.2.2.2.2.1), vi ((gs 1).2.2.2.2.2.2.2)]), (g1r, aI g 11 ((gs 1).2.2.1)), (g1x, aI g 10 ((gs 1).2.2.2.1)), (g1y, aI g 10 ((gs 1).2.2.2.2.1)), (g2, oB 6 [vi ((gs 2).1), vi ((gs 2).2.1), .ref g2r, .ref g2x, .ref g2y, vi ((gs 2).2.2.2.2.2.1), vi ((gs 2).2.2.2.2.2.2.1), vi ((gs 2).2.2.2.2.2.2.2)]), (g2r, aI g 11 ((gs 2).2.2.1)), (g2x, aI g 10 ((gs 2).2.2.2.1)), (g2y, aI g 10 ((gs 2).2.2.2.2.1)), (g3, oB 6 [vi ((gs 3).1), vi ((gs 3).2.1), .ref g3r, .ref g3x, .ref g3y, vi ((gs 3).2.2.2.2.2.1), vi ((gs 3).2.2.2.2.2.2.1), vi ((gs 3).2.2.2.2.2.2.2)]), (g3r, aI g 11 ((gs 3).2.2.1)), (g3x, aI g 10 ((gs 3).2.2.2.1)), (g3y, aI g 10 ((gs 3).2.2.2.2.1)), (g4, oB 6 [vi ((gs 4).1), vi ((gs 4).2.1), .ref g4r, .ref g4x, .ref g4y, vi ((gs 4).2.2.2.2.2.1), vi ((gs 4).2.2.2.2.2.2.1), vi ((gs 4).2.2.2.2.2.2.2)]), (g4r, aI g 11 ((gs 4).2.2.1)), (g4x, aI g 10 ((gs 4).2.2.2.1)), (g4y, aI g 10 ((gs 4).2.2.2.2.1)), (g5, oB 6 [vi ((gs 5).1), vi ((gs 5).2.1), .ref g5r, .ref g5x, .ref g5y, vi ((gs 5).2.2.2.2.2.1), vi ((gs 5).2.2.2.2.2.2.1), vi ((gs 5).2.2.2.2.2.2.2)]), (g5r, aI g 11 ((gs 5).2.2.1)), (g5x, aI g 10 ((gs 5).2.2.2.1)), (g5y, aI g 10 ((gs 5).2.2.2.2.1)), (h0, oB 6 [vi ((gs 2).1), vi ((gs 2).2.1), .ref h0r, .ref h0x, .ref h0y, vi ((gs 2).2.2.2.2.2.1), vi ((gs 2).2.2.2.2.2.2.1), vi ((gs 2).2.2.2.2.2.2.2)]), (h0r, aI g 11 ((gs 2).2.2.1)), (h0x, aI g 10 ((gs 2).2.2.2.1)), (h0y, aI g 10 ((gs 2).2.2.2.2.1)), (hb, oB 0 [.ref hbr, .ref hbg, vi (bz 2)]), (hbr, aI g 8 rk), (hbg, aI g 8 gn)]) dX3_restoreLatest_56 31 rfl (Nat.le_of_ble_eq_true rfl) rfl ?_
      exact e_v C () dX3_restoreLatest_59 (trivial) rfl
  · skip
    refine r_aload_n C dX3_restoreLatest_0 0 rfl ?_
    refine gf_X3_25 C dX3_restoreLatest_1 0 rfl rfl ?_
    refine r_if_le C 59 dX3_restoreLatest_4 rfl (by omega) (fun c_5 => ?_) (fun c_5 => ?_)
    · skip
      exact absurd hhz (by omega)
    · skip
      refine r_aload_n C dX3_restoreLatest_7 0 rfl ?_
      refine r_dup C dX3_restoreLatest_8 rfl ?_
      refine gf_X3_25 C dX3_restoreLatest_9 0 rfl rfl ?_
      refine r_iconst C dX3_restoreLatest_12 ?_
      refine r_isub C dX3_restoreLatest_13 ?_
      refine pf_X3_25 C (ws' := [(hh, oB 3 [.ref hhq, .ref hhb, vi 4, vi (hz - 1)]), (hhq, aQ g 6 (q6 g0 g1 g2 g3 g4 g5)), (hhb, aI g 6 bz), (g0, oB 6 [vi ((gs 0).1), vi ((gs 0).2.1), .ref g0r, .ref g0x, .ref g0y, vi ((gs 0).2.2.2.2.2.1), vi ((gs 0).2.2.2.2.2.2.1), vi ((gs 0).2.2.2.2.2.2.2)]), (g0r, aI g 11 ((gs 0).2.2.1)), (g0x, aI g 10 ((gs 0).2.2.2.1)), (g0y, aI g 10 ((gs 0).2.2.2.2.1)), (g1, oB 6 [vi ((gs 1).1), vi ((gs 1).2.1), .ref g1r, .ref g1x, .ref g1y, vi ((gs 1).2.2.2.2.2.1), vi ((gs 1).2.2.2.2.2.2.1), vi ((gs 1).2.2.2.2.2.2.2)]), (g1r, aI g 11 ((gs 1).2.2.1)), (g1x, aI g 10 ((gs 1).2.2.2.1)), (g1y, aI g 10 ((gs 1).2.2.2.2.1)), (g2, oB 6 [vi ((gs 2).1), vi ((gs 2).2.1), .ref g2r, .ref g2x, .ref g2y, vi ((gs 2).2.2.2.2.2.1), vi ((gs 2).2.2.2.2.2.2.1), vi ((gs 2).2.2.2.2.2.2.2)]), (g2r, aI g 11 ((gs 2).2.2.1)), (g2x, aI g 10 ((gs 2).2.2.2.1)), (g2y, aI g 10 ((gs 2).2.2.2.2.1)), (g3, oB 6 [vi ((gs 3).1), vi ((gs 3).2.1), .ref g3r, .ref g3x, .ref g3y, vi ((gs 3).2.2.2.2.2.1), vi ((gs 3).2.2.2.2.2.2.1), vi ((gs 3).2.2.2.2.2.2.2)]), (g3r, aI g 11 ((gs 3).2.2.1)), (g3x, aI g 10 ((gs 3).2.2.2.1)), (g3y, aI g 10 ((gs 3).2.2.2.2.1)), (g4, oB 6 [vi ((gs 4).1), vi ((gs 4).2.1), .ref g4r, .ref g4x, .ref g4y, vi ((gs 4).2.2.2.2.2.1), vi ((gs 4).2.2.2.2.2.2.1), vi ((gs 4).2.2.2.2.2.2.2)]), (g4r, aI g 11 ((gs 4).2.2.1)), (g4x, aI g 10 ((gs 4).2.2.2.1)), (g4y, aI g 10 ((gs 4).2.2.2.2.1)), (g5, oB 6 [vi ((gs 5).1), vi ((gs 5).2.1), .ref g5r, .ref g5x, .ref g5y, vi ((gs 5).2.2.2.2.2.1), vi ((gs 5).2.2.2.2.2.2.1), vi ((gs 5).2.2.2.2.2.2.2)]), (g5r, aI g 11 ((gs 5).2.2.1)), (g5x, aI g 10 ((gs 5).2.2.2.1)), (g5y, aI g 10 ((gs 5).2.2.2.2.1)), (h0, oB 6 [vi w, vi h, .ref h0r, .ref h0x, .ref h0y, vi n, vi m, vi c]), (h0r, aI g 11 f), (h0x, aI g 10 X), (h0y, aI g 10 Y), (hb, oB 0 [.ref hbr, .ref hbg, vi bs]), (hbr, aI g 8 rk), (hbg, aI g 8 gn)]) dX3_restoreLatest_14 0 rfl (Nat.le_of_ble_eq_true rfl) rfl ?_
      refine r_aload_n C dX3_restoreLatest_17 0 rfl ?_
      refine r_aload_n C dX3_restoreLatest_18 0 rfl ?_
      refine gf_X3_21 C dX3_restoreLatest_19 0 rfl rfl ?_
      refine r_bipush C dX3_restoreLatest_22 rfl ?_
      refine r_iadd C dX3_restoreLatest_24 ?_
      refine r_iconst C dX3_restoreLatest_25 ?_
      refine r_isub C dX3_restoreLatest_26 ?_
      refine r_bipush C dX3_restoreLatest_27 rfl ?_
      refine r_irem C dX3_restoreLatest_29 (by omega) ?_
      refine r_eq (y := 3) (by decide) ?_
      refine pf_X3_21 C (ws' := [(hh, oB 3 [.ref hhq, .ref hhb, vi 3, vi (hz - 1)]), (hhq, aQ g 6 (q6 g0 g1 g2 g3 g4 g5)), (hhb, aI g 6 bz), (g0, oB 6 [vi ((gs 0).1), vi ((gs 0).2.1), .ref g0r, .ref g0x, .ref g0y, vi ((gs 0).2.2.2.2.2.1), vi ((gs 0).2.2.2.2.2.2.1), vi ((gs 0).2.2.2.2.2.2.2)]), (g0r, aI g 11 ((gs 0).2.2.1)), (g0x, aI g 10 ((gs 0).2.2.2.1)), (g0y, aI g 10 ((gs 0).2.2.2.2.1)), (g1, oB 6 [vi ((gs 1).1), vi ((gs 1).2.1), .ref g1r, .ref g1x, .ref g1y, vi ((gs 1).2.2.2.2.2.1), vi ((gs 1).2.2.2.2.2.2.1), vi ((gs 1).2.2.2.2.2.2.2)]), (g1r, aI g 11 ((gs 1).2.2.1)), (g1x, aI g 10 ((gs 1).2.2.2.1)), (g1y, aI g 10 ((gs 1).2.2.2.2.1)), (g2, oB 6 [vi ((gs 2).1), vi ((gs 2).2.1), .ref g2r, .ref g2x, .ref g2y, vi ((gs 2).2.2.2.2.2.1), vi ((gs 2).2.2.2.2.2.2.1), vi ((gs 2).2.2.2.2.2.2.2)]), (g2r, aI g 11 ((gs 2).2.2.1)), (g2x, aI g 10 ((gs 2).2.2.2.1)), (g2y, aI g 10 ((gs 2).2.2.2.2.1)), (g3, oB 6 [vi ((gs 3).1), vi ((gs 3).2.1), .ref g3r, .ref g3x, .ref g3y, vi ((gs 3).2.2.2.2.2.1), vi ((gs 3).2.2.2.2.2.2.1), vi ((gs 3).2.2.2.2.2.2.2)]), (g3r, aI g 11 ((gs 3).2.2.1)), (g3x, aI g 10 ((gs 3).2.2.2.1)), (g3y, aI g 10 ((gs 3).2.2.2.2.1)), (g4, oB 6 [vi ((gs 4).1), vi ((gs 4).2.1), .ref g4r, .ref g4x, .ref g4y, vi ((gs 4).2.2.2.2.2.1), vi ((gs 4).2.2.2.2.2.2.1), vi ((gs 4).2.2.2.2.2.2.2)]), (g4r, aI g 11 ((gs 4).2.2.1)), (g4x, aI g 10 ((gs 4).2.2.2.1)), (g4y, aI g 10 ((gs 4).2.2.2.2.1)), (g5, oB 6 [vi ((gs 5).1), vi ((gs 5).2.1), .ref g5r, .ref g5x, .ref g5y, vi ((gs 5).2.2.2.2.2.1), vi ((gs 5).2.2.2.2.2.2.1), vi ((gs 5).2.2.2.2.2.2.2)]), (g5r, aI g 11 ((gs 5).2.2.1)), (g5x, aI g 10 ((gs 5).2.2.2.1)), (g5y, aI g 10 ((gs 5).2.2.2.2.1)), (h0, oB 6 [vi w, vi h, .ref h0r, .ref h0x, .ref h0y, vi n, vi m, vi c]), (h0r, aI g 11 f), (h0x, aI g 10 X), (h0y, aI g 10 Y), (hb, oB 0 [.ref hbr, .ref hbg, vi bs]), (hbr, aI g 8 rk), (hbg, aI g 8 gn)]) dX3_restoreLatest_30 0 rfl (Nat.le_of_ble_eq_true rfl) rfl ?_
      refine r_aload_n C dX3_restoreLatest_33 1 rfl ?_
      refine r_aload_n C dX3_restoreLatest_34 0 rfl ?_
      refine gf_X3_11 C dX3_restoreLatest_35 0 rfl rfl ?_
      refine r_aload_n C dX3_restoreLatest_38 0 rfl ?_
      refine gf_X3_21 C dX3_restoreLatest_39 0 rfl rfl ?_
      refine r_aald C (b := g3) dX3_restoreLatest_42 1 rfl rfl (by omega) rfl ?_
      refine k_Vv C kv_X3_29 (fun sz => c_X7_copyFrom l g h0 h0r h0x h0y w h n m c f X Y g3 g3r g3x g3y ((gs 3).1) ((gs 3).2.1) ((gs 3).2.2.2.2.2.1) ((gs 3).2.2.2.2.2.2.1) ((gs 3).2.2.2.2.2.2.2) ((gs 3).2.2.1) ((gs 3).2.2.2.1) ((gs 3).2.2.2.2.1) sz) dX3_restoreLatest_43 rfl rfl rfl ⟨rfl, rfl⟩ 27 6 rfl rfl rfl [27, 28, 29, 30, 15, 16, 17, 18] rfl rfl (fun _ => rfl) (ws' := fun u_ => [(hh, oB 3 [.ref hhq, .ref hhb, vi 3, vi (hz - 1)]), (hhq, aQ g 6 (q6 g0 g1 g2 g3 g4 g5)), (hhb, aI g 6 bz), (g0, oB 6 [vi ((gs 0).1), vi ((gs 0).2.1), .ref g0r, .ref g0x, .ref g0y, vi ((gs 0).2.2.2.2.2.1), vi ((gs 0).2.2.2.2.2.2.1), vi ((gs 0).2.2.2.2.2.2.2)]), (g0r, aI g 11 ((gs 0).2.2.1)), (g0x, aI g 10 ((gs 0).2.2.2.1)), (g0y, aI g 10 ((gs 0).2.2.2.2.1)), (g1, oB 6 [vi ((gs 1).1), vi ((gs 1).2.1), .ref g1r, .ref g1x, .ref g1y, vi ((gs 1).2.2.2.2.2.1), vi ((gs 1).2.2.2.2.2.2.1), vi ((gs 1).2.2.2.2.2.2.2)]), (g1r, aI g 11 ((gs 1).2.2.1)), (g1x, aI g 10 ((gs 1).2.2.2.1)), (g1y, aI g 10 ((gs 1).2.2.2.2.1)), (g2, oB 6 [vi ((gs 2).1), vi ((gs 2).2.1), .ref g2r, .ref g2x, .ref g2y, vi ((gs 2).2.2.2.2.2.1), vi ((gs 2).2.2.2.2.2.2.1), vi ((gs 2).2.2.2.2.2.2.2)]), (g2r, aI g 11 ((gs 2).2.2.1)), (g2x, aI g 10 ((gs 2).2.2.2.1)), (g2y, aI g 10 ((gs 2).2.2.2.2.1)), (g3, oB 6 [vi ((gs 3).1), vi ((gs 3).2.1), .ref g3r, .ref g3x, .ref g3y, vi ((gs 3).2.2.2.2.2.1), vi ((gs 3).2.2.2.2.2.2.1), vi ((gs 3).2.2.2.2.2.2.2)]), (g3r, aI g 11 ((gs 3).2.2.1)), (g3x, aI g 10 ((gs 3).2.2.2.1)), (g3y, aI g 10 ((gs 3).2.2.2.2.1)), (g4, oB 6 [vi ((gs 4).1), vi ((gs 4).2.1), .ref g4r, .ref g4x, .ref g4y, vi ((gs 4).2.2.2.2.2.1), vi ((gs 4).2.2.2.2.2.2.1), vi ((gs 4).2.2.2.2.2.2.2)]), (g4r, aI g 11 ((gs 4).2.2.1)), (g4x, aI g 10 ((gs 4).2.2.2.1)), (g4y, aI g 10 ((gs 4).2.2.2.2.1)), (g5, oB 6 [vi ((gs 5).1), vi ((gs 5).2.1), .ref g5r, .ref g5x, .ref g5y, vi ((gs 5).2.2.2.2.2.1), vi ((gs 5).2.2.2.2.2.2.1), vi ((gs 5).2.2.2.2.2.2.2)]), (g5r, aI g 11 ((gs 5).2.2.1)), (g5x, aI g 10 ((gs 5).2.2.2.1)), (g5y, aI g 10 ((gs 5).2.2.2.2.1)), (h0, oB 6 [vi ((gs 3).1), vi ((gs 3).2.1), .ref h0r, .ref h0x, .ref h0y, vi ((gs 3).2.2.2.2.2.1), vi ((gs 3).2.2.2.2.2.2.1), vi ((gs 3).2.2.2.2.2.2.2)]), (h0r, aI g 11 ((gs 3).2.2.1)), (h0x, aI g 10 ((gs 3).2.2.2.1)), (h0y, aI g 10 ((gs 3).2.2.2.2.1)), (hb, oB 0 [.ref hbr, .ref hbg, vi bs]), (hbr, aI g 8 rk), (hbg, aI g 8 gn)]) (fun _ => rfl) (fun u_ p_43 => ?_)
      refine r_aload_n C dX3_restoreLatest_46 2 rfl ?_
      refine r_aload_n C dX3_restoreLatest_47 0 rfl ?_
      refine gf_X3_17 C dX3_restoreLatest_48 0 rfl rfl ?_
      refine r_aload_n C dX3_restoreLatest_51 0 rfl ?_
      refine gf_X3_21 C dX3_restoreLatest_52 0 rfl rfl ?_
      refine r_iald C dX3_restoreLatest_55 2 rfl rfl (by omega) ?_
      refine pf_X3_39 C (ws' := [(hh, oB 3 [.ref hhq, .ref hhb, vi 3, vi (hz - 1)]), (hhq, aQ g 6 (q6 g0 g1 g2 g3 g4 g5)), (hhb, aI g 6 bz), (g0, oB 6 [vi ((gs 0).1), vi ((gs 0).2.1), .ref g0r, .ref g0x, .ref g0y, vi ((gs 0).2.2.2.2.2.1), vi ((gs 0).2.2.2.2.2.2.1), vi ((gs 0).2.2.2.2.2.2.2)]), (g0r, aI g 11 ((gs 0).2.2.1)), (g0x, aI g 10 ((gs 0).2.2.2.1)), (g0y, aI g 10 ((gs 0).2.2.2.2.1)), (g1, oB 6 [vi ((gs 1).1), vi ((gs 1).2.1), .ref g1r, .ref g1x, .ref g1y, vi ((gs 1).2.2.2.2.2.1), vi ((gs 1).2.2.2.2.2.2.1), vi ((gs 1).2.2.2.2.2.2.2)]), (g1r, aI g 11 ((gs 1).2.2.1)), (g1x, aI g 10 ((gs 1).2.2.2.1)), (g1y, aI g 10 ((gs 1).2.2.2.2.1)), (g2, oB 6 [vi ((gs 2).1), vi ((gs 2).2.1), .ref g2r, .ref g2x, .ref g2y, vi ((gs 2).2.2.2.2.2.1), vi ((gs 2).2.2.2.2.2.2.1), vi ((gs 2).2.2.2.2.2.2.2)]), (g2r, aI g 11 ((gs 2).2.2.1)), (g2x, aI g 10 ((gs 2).2.2.2.1)), (g2y, aI g 10 ((gs 2).2.2.2.2.1)), (g3, oB 6 [vi ((gs 3).1), vi ((gs 3).2.1), .ref g3r, .ref g3x, .ref g3y, vi ((gs 3).2.2.2.2.2.1), vi ((gs 3).2.2.2.2.2.2.1), vi ((gs 3).2.2.2.2.2.2.2)]), (g3r, aI g 11 ((gs 3).2.2.1)), (g3x, aI g 10 ((gs 3).2.2.2.1)), (g3y, aI g 10 ((gs 3).2.2.2.2.1)), (g4, oB 6 [vi ((gs 4).1), vi ((gs 4).2.1), .ref g4r, .ref g4x, .ref g4y, vi ((gs 4).2.2.2.2.2.1), vi ((gs 4).2.2.2.2.2.2.1), vi ((gs 4).2.2.2.2.2.2.2)]), (g4r, aI g 11 ((gs 4).2.2.1)), (g4x, aI g 10 ((gs 4).2.2.2.1)), (g4y, aI g 10 ((gs 4).2.2.2.2.1)), (g5, oB 6 [vi ((gs 5).1), vi ((gs 5).2.1), .ref g5r, .ref g5x, .ref g5y, vi ((gs 5).2.2.2.2.2.1), vi ((gs 5).2.2.2.2.2.2.1), vi ((gs 5).2.2.2.2.2.2.2)]), (g5r, aI g 11 ((gs 5).2.2.1)), (g5x, aI g 10 ((gs 5).2.2.2.1)), (g5y, aI g 10 ((gs 5).2.2.2.2.1)), (h0, oB 6 [vi ((gs 3).1), vi ((gs 3).2.1), .ref h0r, .ref h0x, .ref h0y, vi ((gs 3).2.2.2.2.2.1), vi ((gs 3).2.2.2.2.2.2.1), vi ((gs 3).2.2.2.2.2.2.2)]), (h0r, aI g 11 ((gs 3).2.2.1)), (h0x, aI g 10 ((gs 3).2.2.2.1)), (h0y, aI g 10 ((gs 3).2.2.2.2.1)), (hb, oB 0 [.ref hbr, .ref hbg, vi (bz 3)]), (hbr, aI g 8 rk), (hbg, aI g 8 gn)]) dX3_restoreLatest_56 31 rfl (Nat.le_of_ble_eq_true rfl) rfl ?_
      exact e_v C () dX3_restoreLatest_59 (trivial) rfl
  · skip
    refine r_aload_n C dX3_restoreLatest_0 0 rfl ?_
    refine gf_X3_25 C dX3_restoreLatest_1 0 rfl rfl ?_
    refine r_if_le C 59 dX3_restoreLatest_4 rfl (by omega) (fun c_6 => ?_) (fun c_6 => ?_)
    · skip
      exact absurd hhz (by omega)
    · skip
      refine r_aload_n C dX3_restoreLatest_7 0 rfl ?_
      refine r_dup C dX3_restoreLatest_8 rfl ?_
      refine gf_X3_25 C dX3_restoreLatest_9 0 rfl rfl ?_
      refine r_iconst C dX3_restoreLatest_12 ?_
      refine r_isub C dX3_restoreLatest_13 ?_
      refine pf_X3_25 C (ws' := [(hh, oB 3 [.ref hhq, .ref hhb, vi 5, vi (hz - 1)]), (hhq, aQ g 6 (q6 g0 g1 g2 g3 g4 g5)), (hhb, aI g 6 bz), (g0, oB 6 [vi ((gs 0).1), vi ((gs 0).2.1), .ref g0r, .ref g0x, .ref g0y, vi ((gs 0).2.2.2.2.2.1), vi ((gs 0).2.2.2.2.2.2.1), vi ((gs 0).2.2.2.2.2.2.2)]), (g0r, aI g 11 ((gs 0).2.2.1)), (g0x, aI g 10 ((gs 0).2.2.2.1)), (g0y, aI g 10 ((gs 0).2.2.2.2.1)), (g1, oB 6 [vi ((gs 1).1), vi ((gs 1).2.1), .ref g1r, .ref g1x, .ref g1y, vi ((gs 1).2.2.2.2.2.1), vi ((gs 1).2.2.2.2.2.2.1), vi ((gs 1).2.2.2.2.2.2.2)]), (g1r, aI g 11 ((gs 1).2.2.1)), (g1x, aI g 10 ((gs 1).2.2.2.1)), (g1y, aI g 10 ((gs 1).2.2.2.2.1)), (g2, oB 6 [vi ((gs 2).1), vi ((gs 2).2.1), .ref g2r, .ref g2x, .ref g2y, vi ((gs 2).2.2.2.2.2.1), vi ((gs 2).2.2.2.2.2.2.1), vi ((gs 2).2.2.2.2.2.2.2)]), (g2r, aI g 11 ((gs 2).2.2.1)), (g2x, aI g 10 ((gs 2).2.2.2.1)), (g2y, aI g 10 ((gs 2).2.2.2.2.1)), (g3, oB 6 [vi ((gs 3).1), vi ((gs 3).2.1), .ref g3r, .ref g3x, .ref g3y, vi ((gs 3).2.2.2.2.2.1), vi ((gs 3).2.2.2.2.2.2.1), vi ((gs 3).2.2.2.2.2.2.2)]), (g3r, aI g 11 ((gs 3).2.2.1)), (g3x, aI g 10 ((gs 3).2.2.2.1)), (g3y, aI g 10 ((gs 3).2.2.2.2.1)), (g4, oB 6 [vi ((gs 4).1), vi ((gs 4).2.1), .ref g4r, .ref g4x, .ref g4y, vi ((gs 4).2.2.2.2.2.1), vi ((gs 4).2.2.2.2.2.2.1), vi ((gs 4).2.2.2.2.2.2.2)]), (g4r, aI g 11 ((gs 4).2.2.1)), (g4x, aI g 10 ((gs 4).2.2.2.1)), (g4y, aI g 10 ((gs 4).2.2.2.2.1)), (g5, oB 6 [vi ((gs 5).1), vi ((gs 5).2.1), .ref g5r, .ref g5x, .ref g5y, vi ((gs 5).2.2.2.2.2.1), vi ((gs 5).2.2.2.2.2.2.1), vi ((gs 5).2.2.2.2.2.2.2)]), (g5r, aI g 11 ((gs 5).2.2.1)), (g5x, aI g 10 ((gs 5).2.2.2.1)), (g5y, aI g 10 ((gs 5).2.2.2.2.1)), (h0, oB 6 [vi w, vi h, .ref h0r, .ref h0x, .ref h0y, vi n, vi m, vi c]), (h0r, aI g 11 f), (h0x, aI g 10 X), (h0y, aI g 10 Y), (hb, oB 0 [.ref hbr, .ref hbg, vi bs]), (hbr, aI g 8 rk), (hbg, aI g 8 gn)]) dX3_restoreLatest_14 0 rfl (Nat.le_of_ble_eq_true rfl) rfl ?_
      refine r_aload_n C dX3_restoreLatest_17 0 rfl ?_
      refine r_aload_n C dX3_restoreLatest_18 0 rfl ?_
      refine gf_X3_21 C dX3_restoreLatest_19 0 rfl rfl ?_
      refine r_bipush C dX3_restoreLatest_22 rfl ?_
      refine r_iadd C dX3_restoreLatest_24 ?_
      refine r_iconst C dX3_restoreLatest_25 ?_
      refine r_isub C dX3_restoreLatest_26 ?_
      refine r_bipush C dX3_restoreLatest_27 rfl ?_
      refine r_irem C dX3_restoreLatest_29 (by omega) ?_
      refine r_eq (y := 4) (by decide) ?_
      refine pf_X3_21 C (ws' := [(hh, oB 3 [.ref hhq, .ref hhb, vi 4, vi (hz - 1)]), (hhq, aQ g 6 (q6 g0 g1 g2 g3 g4 g5)), (hhb, aI g 6 bz), (g0, oB 6 [vi ((gs 0).1), vi ((gs 0).2.1), .ref g0r, .ref g0x, .ref g0y, vi ((gs 0).2.2.2.2.2.1), vi ((gs 0).2.2.2.2.2.2.1), vi ((gs 0).2.2.2.2.2.2.2)]), (g0r, aI g 11 ((gs 0).2.2.1)), (g0x, aI g 10 ((gs 0).2.2.2.1)), (g0y, aI g 10 ((gs 0).2.2.2.2.1)), (g1, oB 6 [vi ((gs 1).1), vi ((gs 1).2.1), .ref g1r, .ref g1x, .ref g1y, vi ((gs 1).2.2.2.2.2.1), vi ((gs 1).2.2.2.2.2.2.1), vi ((gs 1).2.2.2.2.2.2.2)]), (g1r, aI g 11 ((gs 1).2.2.1)), (g1x, aI g 10 ((gs 1).2.2.2.1)), (g1y, aI g 10 ((gs 1).2.2.2.2.1)), (g2, oB 6 [vi ((gs 2).1), vi ((gs 2).2.1), .ref g2r, .ref g2x, .ref g2y, vi ((gs 2).2.2.2.2.2.1), vi ((gs 2).2.2.2.2.2.2.1), vi ((gs 2).2.2.2.2.2.2.2)]), (g2r, aI g 11 ((gs 2).2.2.1)), (g2x, aI g 10 ((gs 2).2.2.2.1)), (g2y, aI g 10 ((gs 2).2.2.2.2.1)), (g3, oB 6 [vi ((gs 3).1), vi ((gs 3).2.1), .ref g3r, .ref g3x, .ref g3y, vi ((gs 3).2.2.2.2.2.1), vi ((gs 3).2.2.2.2.2.2.1), vi ((gs 3).2.2.2.2.2.2.2)]), (g3r, aI g 11 ((gs 3).2.2.1)), (g3x, aI g 10 ((gs 3).2.2.2.1)), (g3y, aI g 10 ((gs 3).2.2.2.2.1)), (g4, oB 6 [vi ((gs 4).1), vi ((gs 4).2.1), .ref g4r, .ref g4x, .ref g4y, vi ((gs 4).2.2.2.2.2.1), vi ((gs 4).2.2.2.2.2.2.1), vi ((gs 4).2.2.2.2.2.2.2)]), (g4r, aI g 11 ((gs 4).2.2.1)), (g4x, aI g 10 ((gs 4).2.2.2.1)), (g4y, aI g 10 ((gs 4).2.2.2.2.1)), (g5, oB 6 [vi ((gs 5).1), vi ((gs 5).2.1), .ref g5r, .ref g5x, .ref g5y, vi ((gs 5).2.2.2.2.2.1), vi ((gs 5).2.2.2.2.2.2.1), vi ((gs 5).2.2.2.2.2.2.2)]), (g5r, aI g 11 ((gs 5).2.2.1)), (g5x, aI g 10 ((gs 5).2.2.2.1)), (g5y, aI g 10 ((gs 5).2.2.2.2.1)), (h0, oB 6 [vi w, vi h, .ref h0r, .ref h0x, .ref h0y, vi n, vi m, vi c]), (h0r, aI g 11 f), (h0x, aI g 10 X), (h0y, aI g 10 Y), (hb, oB 0 [.ref hbr, .ref hbg, vi bs]), (hbr, aI g 8 rk), (hbg, aI g 8 gn)]) dX3_restoreLatest_30 0 rfl (Nat.le_of_ble_eq_true rfl) rfl ?_
      refine r_aload_n C dX3_restoreLatest_33 1 rfl ?_
      refine r_aload_n C dX3_restoreLatest_34 0 rfl ?_
      refine gf_X3_11 C dX3_restoreLatest_35 0 rfl rfl ?_
      refine r_aload_n C dX3_restoreLatest_38 0 rfl ?_
      refine gf_X3_21 C dX3_restoreLatest_39 0 rfl rfl ?_
      refine r_aald C (b := g4) dX3_restoreLatest_42 1 rfl rfl (by omega) rfl ?_
      refine k_Vv C kv_X3_29 (fun sz => c_X7_copyFrom l g h0 h0r h0x h0y w h n m c f X Y g4 g4r g4x g4y ((gs 4).1) ((gs 4).2.1) ((gs 4).2.2.2.2.2.1) ((gs 4).2.2.2.2.2.2.1) ((gs 4).2.2.2.2.2.2.2) ((gs 4).2.2.1) ((gs 4).2.2.2.1) ((gs 4).2.2.2.2.1) sz) dX3_restoreLatest_43 rfl rfl rfl ⟨rfl, rfl⟩ 27 6 rfl rfl rfl [27, 28, 29, 30, 19, 20, 21, 22] rfl rfl (fun _ => rfl) (ws' := fun u_ => [(hh, oB 3 [.ref hhq, .ref hhb, vi 4, vi (hz - 1)]), (hhq, aQ g 6 (q6 g0 g1 g2 g3 g4 g5)), (hhb, aI g 6 bz), (g0, oB 6 [vi ((gs 0).1), vi ((gs 0).2.1), .ref g0r, .ref g0x, .ref g0y, vi ((gs 0).2.2.2.2.2.1), vi ((gs 0).2.2.2.2.2.2.1), vi ((gs 0).2.2.2.2.2.2.2)]), (g0r, aI g 11 ((gs 0).2.2.1)), (g0x, aI g 10 ((gs 0).2.2.2.1)), (g0y, aI g 10 ((gs 0).2.2.2.2.1)), (g1, oB 6 [vi ((gs 1).1), vi ((gs 1).2.1), .ref g1r, .ref g1x, .ref g1y, vi ((gs 1).2.2.2.2.2.1), vi ((gs 1).2.2.2.2.2.2.1), vi ((gs 1).2.2.2.2.2.2.2)]), (g1r, aI g 11 ((gs 1).2.2.1)), (g1x, aI g 10 ((gs 1).2.2.2.1)), (g1y, aI g 10 ((gs 1).2.2.2.2.1)), (g2, oB 6 [vi ((gs 2).1), vi ((gs 2).2.1), .ref g2r, .ref g2x, .ref g2y, vi ((gs 2).2.2.2.2.2.1), vi ((gs 2).2.2.2.2.2.2.1), vi ((gs 2).2.2.2.2.2.2.2)]), (g2r, aI g 11 ((gs 2).2.2.1)), (g2x, aI g 10 ((gs 2).2.2.2.1)), (g2y, aI g 10 ((gs 2).2.2.2.2.1)), (g3, oB 6 [vi ((gs 3).1), vi ((gs 3).2.1), .ref g3r, .ref g3x, .ref g3y, vi ((gs 3).2.2.2.2.2.1), vi ((gs 3).2.2.2.2.2.2.1), vi ((gs 3).2.2.2.2.2.2.2)]), (g3r, aI g 11 ((gs 3).2.2.1)), (g3x, aI g 10 ((gs 3).2.2.2.1)), (g3y, aI g 10 ((gs 3).2.2.2.2.1)), (g4, oB 6 [vi ((gs 4).1), vi ((gs 4).2.1), .ref g4r, .ref g4x, .ref g4y, vi ((gs 4).2.2.2.2.2.1), vi ((gs 4).2.2.2.2.2.2.1), vi ((gs 4).2.2.2.2.2.2.2)]), (g4r, aI g 11 ((gs 4).2.2.1)), (g4x, aI g 10 ((gs 4).2.2.2.1)), (g4y, aI g 10 ((gs 4).2.2.2.2.1)), (g5, oB 6 [vi ((gs 5).1), vi ((gs 5).2.1), .ref g5r, .ref g5x, .ref g5y, vi ((gs 5).2.2.2.2.2.1), vi ((gs 5).2.2.2.2.2.2.1), vi ((gs 5).2.2.2.2.2.2.2)]), (g5r, aI g 11 ((gs 5).2.2.1)), (g5x, aI g 10 ((gs 5).2.2.2.1)), (g5y, aI g 10 ((gs 5).2.2.2.2.1)), (h0, oB 6 [vi ((gs 4).1), vi ((gs 4).2.1), .ref h0r, .ref h0x, .ref h0y, vi ((gs 4).2.2.2.2.2.1), vi ((gs 4).2.2.2.2.2.2.1), vi ((gs 4).2.2.2.2.2.2.2)]), (h0r, aI g 11 ((gs 4).2.2.1)), (h0x, aI g 10 ((gs 4).2.2.2.1)), (h0y, aI g 10 ((gs 4).2.2.2.2.1)), (hb, oB 0 [.ref hbr, .ref hbg, vi bs]), (hbr, aI g 8 rk), (hbg, aI g 8 gn)]) (fun _ => rfl) (fun u_ p_43 => ?_)
      refine r_aload_n C dX3_restoreLatest_46 2 rfl ?_
      refine r_aload_n C dX3_restoreLatest_47 0 rfl ?_
      refine gf_X3_17 C dX3_restoreLatest_48 0 rfl rfl ?_
      refine r_aload_n C dX3_restoreLatest_51 0 rfl ?_
      refine gf_X3_21 C dX3_restoreLatest_52 0 rfl rfl ?_
      refine r_iald C dX3_restoreLatest_55 2 rfl rfl (by omega) ?_
      refine pf_X3_39 C (ws' := [(hh, oB 3 [.ref hhq, .ref hhb, vi 4, vi (hz - 1)]), (hhq, aQ g 6 (q6 g0 g1 g2 g3 g4 g5)), (hhb, aI g 6 bz), (g0, oB 6 [vi ((gs 0).1), vi ((gs 0).2.1), .ref g0r, .ref g0x, .ref g0y, vi ((gs 0).2.2.2.2.2.1), vi ((gs 0).2.2.2.2.2.2.1), vi ((gs 0).2.2.2.2.2.2.2)]), (g0r, aI g 11 ((gs 0).2.2.1)), (g0x, aI g 10 ((gs 0).2.2.2.1)), (g0y, aI g 10 ((gs 0).2.2.2.2.1)), (g1, oB 6 [vi ((gs 1).1), vi ((gs 1).2.1), .ref g1r, .ref g1x, .ref g1y, vi ((gs 1).2.2.2.2.2.1), vi ((gs 1).2.2.2.2.2.2.1), vi ((gs 1).2.2.2.2.2.2.2)]), (g1r, aI g 11 ((gs 1).2.2.1)), (g1x, aI g 10 ((gs 1).2.2.2.1)), (g1y, aI g 10 ((gs 1).2.2.2.2.1)), (g2, oB 6 [vi ((gs 2).1), vi ((gs 2).2.1), .ref g2r, .ref g2x, .ref g2y, vi ((gs 2).2.2.2.2.2.1), vi ((gs 2).2.2.2.2.2.2.1), vi ((gs 2).2.2.2.2.2.2.2)]), (g2r, aI g 11 ((gs 2).2.2.1)), (g2x, aI g 10 ((gs 2).2.2.2.1)), (g2y, aI g 10 ((gs 2).2.2.2.2.1)), (g3, oB 6 [vi ((gs 3).1), vi ((gs 3).2.1), .ref g3r, .ref g3x, .ref g3y, vi ((gs 3).2.2.2.2.2.1), vi ((gs 3).2.2.2.2.2.2.1), vi ((gs 3).2.2.2.2.2.2.2)]), (g3r, aI g 11 ((gs 3).2.2.1)), (g3x, aI g 10 ((gs 3).2.2.2.1)), (g3y, aI g 10 ((gs 3).2.2.2.2.1)), (g4, oB 6 [vi ((gs 4).1), vi ((gs 4).2.1), .ref g4r, .ref g4x, .ref g4y, vi ((gs 4).2.2.2.2.2.1), vi ((gs 4).2.2.2.2.2.2.1), vi ((gs 4).2.2.2.2.2.2.2)]), (g4r, aI g 11 ((gs 4).2.2.1)), (g4x, aI g 10 ((gs 4).2.2.2.1)), (g4y, aI g 10 ((gs 4).2.2.2.2.1)), (g5, oB 6 [vi ((gs 5).1), vi ((gs 5).2.1), .ref g5r, .ref g5x, .ref g5y, vi ((gs 5).2.2.2.2.2.1), vi ((gs 5).2.2.2.2.2.2.1), vi ((gs 5).2.2.2.2.2.2.2)]), (g5r, aI g 11 ((gs 5).2.2.1)), (g5x, aI g 10 ((gs 5).2.2.2.1)), (g5y, aI g 10 ((gs 5).2.2.2.2.1)), (h0, oB 6 [vi ((gs 4).1), vi ((gs 4).2.1), .ref h0r, .ref h0x, .ref h0y, vi ((gs 4).2.2.2.2.2.1), vi ((gs 4).2.2.2.2.2.2.1), vi ((gs 4).2.2.2.2.2.2.2)]), (h0r, aI g 11 ((gs 4).2.2.1)), (h0x, aI g 10 ((gs 4).2.2.2.1)), (h0y, aI g 10 ((gs 4).2.2.2.2.1)), (hb, oB 0 [.ref hbr, .ref hbg, vi (bz 4)]), (hbr, aI g 8 rk), (hbg, aI g 8 gn)]) dX3_restoreLatest_56 31 rfl (Nat.le_of_ble_eq_true rfl) rfl ?_
      exact e_v C () dX3_restoreLatest_59 (trivial) rfl
