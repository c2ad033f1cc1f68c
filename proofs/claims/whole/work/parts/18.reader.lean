theorem sdO_b {v : Int} (h : 0 ≤ v ∧ v ≤ 65535) : -48 ≤ sdO v ∧ sdO v ≤ 11 := by
  unfold sdO
  omega
set_option maxHeartbeats 1000000 in
set_option maxRecDepth 100000 in
theorem c_X6_sideOf (l : Launch) (g : Gx) (v : Int) (hv : 0 ≤ v ∧ v ≤ 65535) (sz : Nat) : Met l yX6_sideOf (.code yX6_sideOf cX6_sideOf 1 (some .int) :: wsL_law) { frames := 0, cells := 0, slots := 0, locals := 0 } (PR g [vi v] [] sz) (PI (S := Unit) g (fun r u_ => r = sdO v) (fun u_ => []) [] sz) 0 0 (va_A [] sz) := by
  refine meet (own := RX6) rfl (plainFor_of_name (by decide +kernel)) rfl (fun p_ e_ s_ m_ args_ below_ meth_ c_ C hnm => ?_)
  refine r_at (ws' := []) (lv' := [(0, vi v)]) rfl rfl ?_
  refine r_iload_n C dX6_sideOf_0 0 rfl ?_
  refine r_bipush C dX6_sideOf_1 rfl ?_
  refine r_icmp_eq C 12 dX6_sideOf_3 rfl (by omega) (fun c_1 => ?_) (fun c_1 => ?_)
  · skip
    refine r_iload_n C dX6_sideOf_12 0 rfl ?_
    refine r_bipush C dX6_sideOf_13 rfl ?_
    refine r_isub C dX6_sideOf_15 ?_
    refine r_bipush C dX6_sideOf_16 rfl ?_
    refine r_iadd C dX6_sideOf_18 ?_
    exact e_i C () dX6_sideOf_19 (show ((v - 97) + 10) = sdO v from by unfold sdO; omega) rfl
  · skip
    refine r_iload_n C dX6_sideOf_6 0 rfl ?_
    refine r_bipush C dX6_sideOf_7 rfl ?_
    refine r_icmp_ne C 20 dX6_sideOf_9 rfl (by omega) (fun c_2 => ?_) (fun c_2 => ?_)
    · skip
      refine r_iload_n C dX6_sideOf_20 0 rfl ?_
      refine r_bipush C dX6_sideOf_21 rfl ?_
      refine r_isub C dX6_sideOf_23 ?_
      refine r_bipush C dX6_sideOf_24 rfl ?_
      refine r_icmp_gt C 36 dX6_sideOf_26 rfl (by omega) (fun c_3 => ?_) (fun c_3 => ?_)
      · skip
        refine r_iconst C dX6_sideOf_36 ?_
        exact e_i C () dX6_sideOf_37 (show (-1) = sdO v from by unfold sdO; omega) rfl
      · skip
        refine r_iload_n C dX6_sideOf_29 0 rfl ?_
        refine r_bipush C dX6_sideOf_30 rfl ?_
        refine r_isub C dX6_sideOf_32 ?_
        refine r_goto C 37 dX6_sideOf_33 rfl ?_
        exact e_i C () dX6_sideOf_37 (show (v - 48) = sdO v from by unfold sdO; omega) rfl
    · skip
      refine r_iload_n C dX6_sideOf_12 0 rfl ?_
      refine r_bipush C dX6_sideOf_13 rfl ?_
      refine r_isub C dX6_sideOf_15 ?_
      refine r_bipush C dX6_sideOf_16 rfl ?_
      refine r_iadd C dX6_sideOf_18 ?_
      exact e_i C () dX6_sideOf_19 (show ((v - 97) + 10) = sdO v from by unfold sdO; omega) rfl
set_option maxHeartbeats 1000000 in
set_option maxRecDepth 100000 in
theorem c_X6_readGrid (l : Launch) (g : Gx) (ha : Nat) (hal : Nat) (L : Int → Int) (len : Int) (he : Nat) (hes : Nat) (hesr : Nat) (hesx : Nat) (hesy : Nat) (td : Int) (rw : Int) (w : Int) (h : Int) (n : Int) (m : Int) (c : Int) (f : Int → Int) (X : Int → Int) (Y : Int → Int) (k : Int) (hlen : 0 ≤ len ∧ len ≤ 200) (hL : ∀ k : Int, 0 ≤ k → k < 200 → 0 ≤ L k ∧ L k ≤ 65535) (hk : 0 ≤ k ∧ k ≤ 200) (hok : PSok (td, w, h, rw, f, n, X, Y, m, c)) (sz : Nat) : Met l yX6_readGrid (.code yX6_readGrid cX6_readGrid 5 (some .int) :: wsL_law) { frames := 1, cells := 0, slots := 0, locals := 22 } (PR g [.ref he, .ref ha, vi k] [(ha, oB 7 [.ref hal, vi len]), (hal, aC g 200 L), (he, oB 5 [.ref hes, vi td, vi rw]), (hes, oB 6 [vi w, vi h, .ref hesr, .ref hesx, .ref hesy, vi n, vi m, vi c]), (hesr, aI g 11 f), (hesx, aI g 10 X), (hesy, aI g 10 Y)] sz) (PI (S := Int × Int × Int) g (fun r u_ => (r = 4 ∧ cG (ltr L len) k ∧ u_.1 = sdO (ltr L len (k + 1)) ∧ u_.2.1 = sdO (ltr L len (k + 2)) ∧ u_.2.2 = 1) ∨ (r = 0 ∧ ¬ cG (ltr L len) k ∧ u_.1 = w ∧ u_.2.1 = h ∧ u_.2.2 = td)) (fun u_ => [(ha, oB 7 [.ref hal, vi len]), (hal, aC g 200 L), (he, oB 5 [.ref hes, vi u_.2.2, vi rw]), (hes, oB 6 [vi u_.1, vi u_.2.1, .ref hesr, .ref hesx, .ref hesy, vi n, vi m, vi c]), (hesr, aI g 11 f), (hesx, aI g 10 X), (hesy, aI g 10 Y)]) [(ha, oB 7 [.ref hal, vi len]), (hal, aC g 200 L), (he, oB 5 [.ref hes, vi td, vi rw]), (hes, oB 6 [vi w, vi h, .ref hesr, .ref hesx, .ref hesy, vi n, vi m, vi c]), (hesr, aI g 11 f), (hesx, aI g 10 X), (hesy, aI g 10 Y)] sz) 0 0 (va_A [(ha, oB 7 [.ref hal, vi len]), (hal, aC g 200 L), (he, oB 5 [.ref hes, vi td, vi rw]), (hes, oB 6 [vi w, vi h, .ref hesr, .ref hesx, .ref hesy, vi n, vi m, vi c]), (hesr, aI g 11 f), (hesx, aI g 10 X), (hesy, aI g 10 Y)] sz) := by
  refine meet (own := RX6) rfl (plainFor_of_name (by decide +kernel)) rfl (fun p_ e_ s_ m_ args_ below_ meth_ c_ C hnm => ?_)
  refine r_at (ws' := [(ha, oB 7 [.ref hal, vi len]), (hal, aC g 200 L), (he, oB 5 [.ref hes, vi td, vi rw]), (hes, oB 6 [vi w, vi h, .ref hesr, .ref hesx, .ref hesy, vi n, vi m, vi c]), (hesr, aI g 11 f), (hesx, aI g 10 X), (hesy, aI g 10 Y)]) (lv' := [(0, .ref he), (1, .ref ha), (2, vi k)]) rfl rfl ?_
  have hlb : ∀ j : Int, 0 ≤ ltr L len j ∧ ltr L len j ≤ 65535 := fun j => by unfold ltr; split; exact hL j (by omega) (by omega); omega
  obtain ⟨o1, o2, o3, o4, o5, o6, o7, o8, o9, o10, o11, o12⟩ := id hok
  refine r_aload_n C dX6_readGrid_0 1 rfl ?_
  refine r_iload_n C dX6_readGrid_1 2 rfl ?_
  refine r_iconst C dX6_readGrid_2 ?_
  refine r_iadd C dX6_readGrid_3 ?_
  have lb1 := hlb (k + 1)
  refine k_Vi C kv_X6_38 (fun sz => c_X8_at l g ha hal L len (k + 1) (by omega) (by omega) (by omega) sz) dX6_readGrid_4 rfl rfl rfl ⟨rfl, rfl⟩ 0 7 rfl rfl rfl [0, 1] rfl rfl (fun _ => rfl) (ws' := fun u_ => [(ha, oB 7 [.ref hal, vi len]), (hal, aC g 200 L), (he, oB 5 [.ref hes, vi td, vi rw]), (hes, oB 6 [vi w, vi h, .ref hesr, .ref hesx, .ref hesy, vi n, vi m, vi c]), (hesr, aI g 11 f), (hesx, aI g 10 X), (hesy, aI g 10 Y)]) (fun _ => rfl) (fun r_4 u_ p_4 => ?_)
  have p_4 : r_4 = ltr L len (k + 1) := p_4
  refine r_eq (y := (ltr L len (k + 1))) p_4 ?_
  refine k_Si C ks_X6_54 (fun sz => c_X6_sideOf l g (ltr L len (k + 1)) (by omega) sz) dX6_readGrid_7 rfl rfl rfl ⟨rfl, rfl⟩ [] rfl rfl (fun _ => rfl) (ws' := fun u_ => [(ha, oB 7 [.ref hal, vi len]), (hal, aC g 200 L), (he, oB 5 [.ref hes, vi td, vi rw]), (hes, oB 6 [vi w, vi h, .ref hesr, .ref hesx, .ref hesy, vi n, vi m, vi c]), (hesr, aI g 11 f), (hesx, aI g 10 X), (hesy, aI g 10 Y)]) (fun _ => rfl) (fun r_7 u_ p_7 => ?_)
  have p_7 : r_7 = sdO (ltr L len (k + 1)) := p_7
  refine r_eq (y := (sdO (ltr L len (k + 1)))) p_7 ?_
  have sb1 := sdO_b lb1
  refine r_istore_n C (lv' := [(3, vi (sdO (ltr L len (k + 1)))), (0, .ref he), (1, .ref ha), (2, vi k)]) dX6_readGrid_10 rfl rfl ?_
  refine r_aload_n C dX6_readGrid_11 2 rfl ?_
  refine r_iload_n C dX6_readGrid_12 3 rfl ?_
  refine r_iconst C dX6_readGrid_13 ?_
  refine r_iadd C dX6_readGrid_14 ?_
  have lb2 := hlb (k + 2)
  refine k_Vi C kv_X6_38 (fun sz => c_X8_at l g ha hal L len (k + 2) (by omega) (by omega) (by omega) sz) dX6_readGrid_15 rfl rfl rfl ⟨rfl, rfl⟩ 0 7 rfl rfl rfl [0, 1] rfl rfl (fun _ => rfl) (ws' := fun u_ => [(ha, oB 7 [.ref hal, vi len]), (hal, aC g 200 L), (he, oB 5 [.ref hes, vi td, vi rw]), (hes, oB 6 [vi w, vi h, .ref hesr, .ref hesx, .ref hesy, vi n, vi m, vi c]), (hesr, aI g 11 f), (hesx, aI g 10 X), (hesy, aI g 10 Y)]) (fun _ => rfl) (fun r_15 u_ p_15 => ?_)
  have p_15 : r_15 = ltr L len (k + 2) := p_15
  refine r_eq (y := (ltr L len (k + 2))) p_15 ?_
  refine k_Si C ks_X6_54 (fun sz => c_X6_sideOf l g (ltr L len (k + 2)) (by omega) sz) dX6_readGrid_18 rfl rfl rfl ⟨rfl, rfl⟩ [] rfl rfl (fun _ => rfl) (ws' := fun u_ => [(ha, oB 7 [.ref hal, vi len]), (hal, aC g 200 L), (he, oB 5 [.ref hes, vi td, vi rw]), (hes, oB 6 [vi w, vi h, .ref hesr, .ref hesx, .ref hesy, vi n, vi m, vi c]), (hesr, aI g 11 f), (hesx, aI g 10 X), (hesy, aI g 10 Y)]) (fun _ => rfl) (fun r_18 u_ p_18 => ?_)
  have p_18 : r_18 = sdO (ltr L len (k + 2)) := p_18
  refine r_eq (y := (sdO (ltr L len (k + 2)))) p_18 ?_
  have sb2 := sdO_b lb2
  refine r_istore C (lv' := [(4, vi (sdO (ltr L len (k + 2)))), (3, vi (sdO (ltr L len (k + 1)))), (0, .ref he), (1, .ref ha), (2, vi k)]) dX6_readGrid_21 rfl rfl ?_
  refine r_iconst C dX6_readGrid_23 ?_
  refine r_iload_n C dX6_readGrid_24 1 rfl ?_
  refine r_bipush C dX6_readGrid_25 rfl ?_
  refine k_Ni C kn_X6_58 (fun sz => c_X11_isFrom l g 4 (sdO (ltr L len (k + 1))) 11 (by omega) (by omega) (by omega) sz) dX6_readGrid_27 rfl rfl rfl ⟨rfl, rfl⟩ [] rfl rfl (fun _ => rfl) (ws' := fun u_ => [(ha, oB 7 [.ref hal, vi len]), (hal, aC g 200 L), (he, oB 5 [.ref hes, vi td, vi rw]), (hes, oB 6 [vi w, vi h, .ref hesr, .ref hesx, .ref hesy, vi n, vi m, vi c]), (hesr, aI g 11 f), (hesx, aI g 10 X), (hesy, aI g 10 Y)]) (fun _ => rfl) (fun r_27 u_ p_27 => ?_)
  have p_27 : (r_27 = 1 ∧ 4 ≤ (sdO (ltr L len (k + 1))) ∧ (sdO (ltr L len (k + 1))) ≤ 11) ∨ (r_27 = 0 ∧ ¬ (4 ≤ (sdO (ltr L len (k + 1))) ∧ (sdO (ltr L len (k + 1))) ≤ 11)) := p_27
  refine r_if_eq C 56 dX6_readGrid_30 rfl (by omega) (fun c_1 => ?_) (fun c_1 => ?_)
  · skip
    refine r_iconst C dX6_readGrid_56 ?_
    exact e_i C (w, h, td) dX6_readGrid_57 (show (0 = 4 ∧ cG (ltr L len) k ∧ w = sdO (ltr L len (k + 1)) ∧ h = sdO (ltr L len (k + 2)) ∧ td = 1) ∨ (0 = 0 ∧ ¬ cG (ltr L len) k ∧ w = w ∧ h = h ∧ td = td) from Or.inr ⟨rfl, fun z => by unfold cG at z; omega, rfl, rfl, rfl⟩) rfl
  · skip
    refine r_iconst C dX6_readGrid_33 ?_
    refine r_iload C dX6_readGrid_34 0 rfl ?_
    refine r_bipush C dX6_readGrid_36 rfl ?_
    refine k_Ni C kn_X6_58 (fun sz => c_X11_isFrom l g 4 (sdO (ltr L len (k + 2))) 11 (by omega) (by omega) (by omega) sz) dX6_readGrid_38 rfl rfl rfl ⟨rfl, rfl⟩ [] rfl rfl (fun _ => rfl) (ws' := fun u_ => [(ha, oB 7 [.ref hal, vi len]), (hal, aC g 200 L), (he, oB 5 [.ref hes, vi td, vi rw]), (hes, oB 6 [vi w, vi h, .ref hesr, .ref hesx, .ref hesy, vi n, vi m, vi c]), (hesr, aI g 11 f), (hesx, aI g 10 X), (hesy, aI g 10 Y)]) (fun _ => rfl) (fun r_38 u_ p_38 => ?_)
    have p_38 : (r_38 = 1 ∧ 4 ≤ (sdO (ltr L len (k + 2))) ∧ (sdO (ltr L len (k + 2))) ≤ 11) ∨ (r_38 = 0 ∧ ¬ (4 ≤ (sdO (ltr L len (k + 2))) ∧ (sdO (ltr L len (k + 2))) ≤ 11)) := p_38
    refine r_if_eq C 56 dX6_readGrid_41 rfl (by omega) (fun c_2 => ?_) (fun c_2 => ?_)
    · skip
      refine r_iconst C dX6_readGrid_56 ?_
      exact e_i C (w, h, td) dX6_readGrid_57 (show (0 = 4 ∧ cG (ltr L len) k ∧ w = sdO (ltr L len (k + 1)) ∧ h = sdO (ltr L len (k + 2)) ∧ td = 1) ∨ (0 = 0 ∧ ¬ cG (ltr L len) k ∧ w = w ∧ h = h ∧ td = td) from Or.inr ⟨rfl, fun z => by unfold cG at z; omega, rfl, rfl, rfl⟩) rfl
    · skip
      refine r_aload_n C dX6_readGrid_44 3 rfl ?_
      refine r_iload_n C dX6_readGrid_45 4 rfl ?_
      refine r_iconst C dX6_readGrid_46 ?_
      refine r_iadd C dX6_readGrid_47 ?_
      have lb3 := hlb (k + 3)
      refine k_Vi C kv_X6_38 (fun sz => c_X8_at l g ha hal L len (k + 3) (by omega) (by omega) (by omega) sz) dX6_readGrid_48 rfl rfl rfl ⟨rfl, rfl⟩ 0 7 rfl rfl rfl [0, 1] rfl rfl (fun _ => rfl) (ws' := fun u_ => [(ha, oB 7 [.ref hal, vi len]), (hal, aC g 200 L), (he, oB 5 [.ref hes, vi td, vi rw]), (hes, oB 6 [vi w, vi h, .ref hesr, .ref hesx, .ref hesy, vi n, vi m, vi c]), (hesr, aI g 11 f), (hesx, aI g 10 X), (hesy, aI g 10 Y)]) (fun _ => rfl) (fun r_48 u_ p_48 => ?_)
      have p_48 : r_48 = ltr L len (k + 3) := p_48
      refine r_eq (y := (ltr L len (k + 3))) p_48 ?_
      refine r_bipush C dX6_readGrid_51 rfl ?_
      refine r_icmp_eq C 58 dX6_readGrid_53 rfl (by omega) (fun c_3 => ?_) (fun c_3 => ?_)
      · skip
        refine r_aload_n C dX6_readGrid_58 2 rfl ?_
        refine gf_X6_12 C dX6_readGrid_59 2 rfl rfl ?_
        refine r_iload_n C dX6_readGrid_62 1 rfl ?_
        refine pf_X6_62 C (ws' := [(ha, oB 7 [.ref hal, vi len]), (hal, aC g 200 L), (he, oB 5 [.ref hes, vi td, vi rw]), (hes, oB 6 [vi (sdO (ltr L len (k + 1))), vi h, .ref hesr, .ref hesx, .ref hesy, vi n, vi m, vi c]), (hesr, aI g 11 f), (hesx, aI g 10 X), (hesy, aI g 10 Y)]) dX6_readGrid_63 3 rfl (Nat.le_of_ble_eq_true rfl) rfl ?_
        refine r_aload_n C dX6_readGrid_66 2 rfl ?_
        refine gf_X6_12 C dX6_readGrid_67 2 rfl rfl ?_
        refine r_iload C dX6_readGrid_70 0 rfl ?_
        refine pf_X6_65 C (ws' := [(ha, oB 7 [.ref hal, vi len]), (hal, aC g 200 L), (he, oB 5 [.ref hes, vi td, vi rw]), (hes, oB 6 [vi (sdO (ltr L len (k + 1))), vi (sdO (ltr L len (k + 2))), .ref hesr, .ref hesx, .ref hesy, vi n, vi m, vi c]), (hesr, aI g 11 f), (hesx, aI g 10 X), (hesy, aI g 10 Y)]) dX6_readGrid_72 3 rfl (Nat.le_of_ble_eq_true rfl) rfl ?_
        refine r_aload_n C dX6_readGrid_75 2 rfl ?_
        refine r_iconst C dX6_readGrid_76 ?_
        refine pf_X6_18 C (ws' := [(ha, oB 7 [.ref hal, vi len]), (hal, aC g 200 L), (he, oB 5 [.ref hes, vi 1, vi rw]), (hes, oB 6 [vi (sdO (ltr L len (k + 1))), vi (sdO (ltr L len (k + 2))), .ref hesr, .ref hesx, .ref hesy, vi n, vi m, vi c]), (hesr, aI g 11 f), (hesx, aI g 10 X), (hesy, aI g 10 Y)]) dX6_readGrid_77 2 rfl (Nat.le_of_ble_eq_true rfl) (nz_n (by omega)) (nz_f (by omega)) rfl ?_
        refine r_iconst C dX6_readGrid_80 ?_
        exact e_i C (sdO (ltr L len (k + 1)), sdO (ltr L len (k + 2)), 1) dX6_readGrid_81 (show (4 = 4 ∧ cG (ltr L len) k ∧ (sdO (ltr L len (k + 1))) = sdO (ltr L len (k + 1)) ∧ (sdO (ltr L len (k + 2))) = sdO (ltr L len (k + 2)) ∧ 1 = 1) ∨ (4 = 0 ∧ ¬ cG (ltr L len) k ∧ (sdO (ltr L len (k + 1))) = w ∧ (sdO (ltr L len (k + 2))) = h ∧ 1 = td) from Or.inl ⟨rfl, ⟨by omega, by omega, by omega⟩, rfl, rfl, rfl⟩) rfl
      · skip
        refine r_iconst C dX6_readGrid_56 ?_
        exact e_i C (w, h, td) dX6_readGrid_57 (show (0 = 4 ∧ cG (ltr L len) k ∧ w = sdO (ltr L len (k + 1)) ∧ h = sdO (ltr L len (k + 2)) ∧ td = 1) ∨ (0 = 0 ∧ ¬ cG (ltr L len) k ∧ w = w ∧ h = h ∧ td = td) from Or.inr ⟨rfl, fun z => by unfold cG at z; omega, rfl, rfl, rfl⟩) rfl
set_option maxHeartbeats 1000000 in
set_option maxRecDepth 100000 in
theorem c_X6_readRow (l : Launch) (g : Gx) (ha : Nat) (hal : Nat) (L : Int → Int) (len : Int) (he : Nat) (hes : Nat) (hesr : Nat) (hesx : Nat) (hesy : Nat) (td : Int) (rw : Int) (w : Int) (h : Int) (n : Int) (m : Int) (c : Int) (f : Int → Int) (X : Int → Int) (Y : Int → Int) (k : Int) (hlen : 0 ≤ len ∧ len ≤ 200) (hL : ∀ k : Int, 0 ≤ k → k < 200 → 0 ≤ L k ∧ L k ≤ 65535) (hk : 0 ≤ k ∧ k ≤ 200) (hok : PSok (td, w, h, rw, f, n, X, Y, m, c)) (sz : Nat) : Met l yX6_readRow (.code yX6_readRow cX6_readRow 6 (some .int) :: wsL_law) { frames := 1, cells := 0, slots := 0, locals := 21 } (PR g [.ref he, .ref ha, vi k] [(ha, oB 7 [.ref hal, vi len]), (hal, aC g 200 L), (he, oB 5 [.ref hes, vi td, vi rw]), (hes, oB 6 [vi w, vi h, .ref hesr, .ref hesx, .ref hesy, vi n, vi m, vi c]), (hesr, aI g 11 f), (hesx, aI g 10 X), (hesy, aI g 10 Y)] sz) (PI (S := (Int → Int) × Int) g (fun r u_ => (r = w + 2 ∧ cR (ltr L len) k w h rw ∧ u_.1 = zU f rw (rowP (isH (ltr L len) k) 0 w) ∧ u_.2 = rw + 1) ∨ (r = 0 ∧ ¬ cR (ltr L len) k w h rw ∧ u_.1 = f ∧ u_.2 = rw)) (fun u_ => [(ha, oB 7 [.ref hal, vi len]), (hal, aC g 200 L), (he, oB 5 [.ref hes, vi td, vi u_.2]), (hes, oB 6 [vi w, vi h, .ref hesr, .ref hesx, .ref hesy, vi n, vi m, vi c]), (hesr, aI g 11 u_.1), (hesx, aI g 10 X), (hesy, aI g 10 Y)]) [(ha, oB 7 [.ref hal, vi len]), (hal, aC g 200 L), (he, oB 5 [.ref hes, vi td, vi rw]), (hes, oB 6 [vi w, vi h, .ref hesr, .ref hesx, .ref hesy, vi n, vi m, vi c]), (hesr, aI g 11 f), (hesx, aI g 10 X), (hesy, aI g 10 Y)] sz) 0 0 (va_A [(ha, oB 7 [.ref hal, vi len]), (hal, aC g 200 L), (he, oB 5 [.ref hes, vi td, vi rw]), (hes, oB 6 [vi w, vi h, .ref hesr, .ref hesx, .ref hesy, vi n, vi m, vi c]), (hesr, aI g 11 f), (hesx, aI g 10 X), (hesy, aI g 10 Y)] sz) := by
  refine meet (own := RX6) rfl (plainFor_of_name (by decide +kernel)) rfl (fun p_ e_ s_ m_ args_ below_ meth_ c_ C hnm => ?_)
  refine r_at (ws' := [(ha, oB 7 [.ref hal, vi len]), (hal, aC g 200 L), (he, oB 5 [.ref hes, vi td, vi rw]), (hes, oB 6 [vi w, vi h, .ref hesr, .ref hesx, .ref hesy, vi n, vi m, vi c]), (hesr, aI g 11 f), (hesx, aI g 10 X), (hesy, aI g 10 Y)]) (lv' := [(0, .ref he), (1, .ref ha), (2, vi k)]) rfl rfl ?_
  have hlb : ∀ j : Int, 0 ≤ ltr L len j ∧ ltr L len j ≤ 65535 := fun j => by unfold ltr; split; exact hL j (by omega) (by omega); omega
  obtain ⟨o1, o2, o3, o4, o5, o6, o7, o8, o9, o10, o11, o12⟩ := id hok
  refine r_aload_n C dX6_readRow_0 0 rfl ?_
  refine gf_X6_22 C dX6_readRow_1 2 rfl rfl ?_
  refine r_aload_n C dX6_readRow_4 0 rfl ?_
  refine gf_X6_12 C dX6_readRow_5 2 rfl rfl ?_
  refine gf_X6_65 C dX6_readRow_8 3 rfl rfl ?_
  refine r_icmp_ge C 23 dX6_readRow_11 rfl (by omega) (fun c_1 => ?_) (fun c_1 => ?_)
  · skip
    refine r_iconst C dX6_readRow_23 ?_
    exact e_i C (f, rw) dX6_readRow_24 (show (0 = w + 2 ∧ cR (ltr L len) k w h rw ∧ f = zU f rw (rowP (isH (ltr L len) k) 0 w) ∧ rw = rw + 1) ∨ (0 = 0 ∧ ¬ cR (ltr L len) k w h rw ∧ f = f ∧ rw = rw) from Or.inr ⟨rfl, fun z => by have := z.1; omega, rfl, rfl⟩) rfl
  · skip
    refine r_aload_n C dX6_readRow_14 0 rfl ?_
    refine gf_X6_22 C dX6_readRow_15 2 rfl rfl ?_
    refine r_bipush C dX6_readRow_18 rfl ?_
    refine r_icmp_lt C 25 dX6_readRow_20 rfl (by omega) (fun c_2 => ?_) (fun c_2 => ?_)
    · skip
      refine r_iconst C dX6_readRow_25 ?_
      refine r_istore_n C (lv' := [(3, vi 0), (0, .ref he), (1, .ref ha), (2, vi k)]) dX6_readRow_26 rfl rfl ?_
      refine r_iconst C dX6_readRow_27 ?_
      refine r_istore C (lv' := [(4, vi 0), (3, vi 0), (0, .ref he), (1, .ref ha), (2, vi k)]) dX6_readRow_28 rfl rfl ?_
      refine r_lv (lv' := [(0, .ref he), (1, .ref ha), (2, vi k), (3, vi 0), (4, vi 0)]) [2, 3, 4, 1, 0] rfl ?_
      refine r_loop (σ := Int × Int) (fun z_ => (0 ≤ z_.1 ∧ z_.1 ≤ w) ∧ (z_.2 = rowP (isH (ltr L len) k) 0 z_.1) ∧ (∀ u : Int, 0 ≤ u → u < z_.1 → ltr L len (k + 1 + u) = 35 ∨ ltr L len (k + 1 + u) = 46)) (fun z_ => w - z_.1) (fun z_ => [(ha, oB 7 [.ref hal, vi len]), (hal, aC g 200 L), (he, oB 5 [.ref hes, vi td, vi rw]), (hes, oB 6 [vi w, vi h, .ref hesr, .ref hesx, .ref hesy, vi n, vi m, vi c]), (hesr, aI g 11 f), (hesx, aI g 10 X), (hesy, aI g 10 Y)]) (fun z_ => [(0, .ref he), (1, .ref ha), (2, vi k), (3, vi z_.2), (4, vi z_.1)]) (fun z_ hz => ?_) (fun z_ hz ih_30 => ?_) (((0, 0) : Int × Int)) ?_
      · obtain ⟨x, b⟩ := z_
        obtain ⟨hx, hb, hall⟩ := hz
        have hx : 0 ≤ x ∧ x ≤ w := hx
        have hb : b = rowP (isH (ltr L len) k) 0 x := hb
        have hall : ∀ u : Int, 0 ≤ u → u < x → ltr L len (k + 1 + u) = 35 ∨ ltr L len (k + 1 + u) = 46 := hall
        show (0 : Int) ≤ w - x
        omega
      rotate_left
      · show (0 ≤ 0 ∧ 0 ≤ w) ∧ (0 = rowP (isH (ltr L len) k) 0 0) ∧ (∀ u : Int, 0 ≤ u → u < 0 → ltr L len (k + 1 + u) = 35 ∨ ltr L len (k + 1 + u) = 46)
        exact ⟨(by omega), (rfl), (fun u a b => by omega)⟩
      obtain ⟨x, b⟩ := z_
      obtain ⟨hx, hb, hall⟩ := hz
      have hx : 0 ≤ x ∧ x ≤ w := hx
      have hb : b = rowP (isH (ltr L len) k) 0 x := hb
      have hall : ∀ u : Int, 0 ≤ u → u < x → ltr L len (k + 1 + u) = 35 ∨ ltr L len (k + 1 + u) = 46 := hall
      refine r_at (ws' := [(ha, oB 7 [.ref hal, vi len]), (hal, aC g 200 L), (he, oB 5 [.ref hes, vi td, vi rw]), (hes, oB 6 [vi w, vi h, .ref hesr, .ref hesx, .ref hesy, vi n, vi m, vi c]), (hesr, aI g 11 f), (hesx, aI g 10 X), (hesy, aI g 10 Y)]) (lv' := [(0, .ref he), (1, .ref ha), (2, vi k), (3, vi b), (4, vi x)]) rfl rfl ?_
      refine r_iload C dX6_readRow_30 4 rfl ?_
      refine r_aload_n C dX6_readRow_32 0 rfl ?_
      refine gf_X6_12 C dX6_readRow_33 2 rfl rfl ?_
      refine gf_X6_62 C dX6_readRow_36 3 rfl rfl ?_
      refine r_icmp_ge C 86 dX6_readRow_39 rfl (by omega) (fun c_3 => ?_) (fun c_3 => ?_)
      · skip
        refine r_aload_n C dX6_readRow_86 1 rfl ?_
        refine r_iload_n C dX6_readRow_87 2 rfl ?_
        refine r_iconst C dX6_readRow_88 ?_
        refine r_iadd C dX6_readRow_89 ?_
        refine r_aload_n C dX6_readRow_90 0 rfl ?_
        refine gf_X6_12 C dX6_readRow_91 2 rfl rfl ?_
        refine gf_X6_62 C dX6_readRow_94 3 rfl rfl ?_
        refine r_iadd C dX6_readRow_97 ?_
        have lb2 := hlb (k + 1 + w)
        refine k_Vi C kv_X6_38 (fun sz => c_X8_at l g ha hal L len ((k + 1) + w) (by omega) (by omega) (by omega) sz) dX6_readRow_98 rfl rfl rfl ⟨rfl, rfl⟩ 0 7 rfl rfl rfl [0, 1] rfl rfl (fun _ => rfl) (ws' := fun u_ => [(ha, oB 7 [.ref hal, vi len]), (hal, aC g 200 L), (he, oB 5 [.ref hes, vi td, vi rw]), (hes, oB 6 [vi w, vi h, .ref hesr, .ref hesx, .ref hesy, vi n, vi m, vi c]), (hesr, aI g 11 f), (hesx, aI g 10 X), (hesy, aI g 10 Y)]) (fun _ => rfl) (fun r_98 u_ p_98 => ?_)
        have p_98 : r_98 = ltr L len ((k + 1) + w) := p_98
        refine r_eq (y := (ltr L len ((k + 1) + w))) p_98 ?_
        refine r_bipush C dX6_readRow_101 rfl ?_
        refine r_icmp_eq C 108 dX6_readRow_103 rfl (by omega) (fun c_4 => ?_) (fun c_4 => ?_)
        · skip
          refine r_aload_n C dX6_readRow_108 0 rfl ?_
          refine gf_X6_12 C dX6_readRow_109 2 rfl rfl ?_
          refine gf_X6_68 C dX6_readRow_112 3 rfl rfl ?_
          refine r_aload_n C dX6_readRow_115 0 rfl ?_
          refine gf_X6_22 C dX6_readRow_116 2 rfl rfl ?_
          refine r_iload_n C dX6_readRow_119 3 rfl ?_
          refine r_iast C (ws' := [(ha, oB 7 [.ref hal, vi len]), (hal, aC g 200 L), (he, oB 5 [.ref hes, vi td, vi rw]), (hes, oB 6 [vi w, vi h, .ref hesr, .ref hesx, .ref hesy, vi n, vi m, vi c]), (hesr, aI g 11 (zU f rw b)), (hesx, aI g 10 X), (hesy, aI g 10 Y)]) dX6_readRow_120 4 rfl rfl (by omega) rfl ?_
          refine r_aload_n C dX6_readRow_121 0 rfl ?_
          refine r_dup C dX6_readRow_122 rfl ?_
          refine gf_X6_22 C dX6_readRow_123 2 rfl rfl ?_
          refine r_iconst C dX6_readRow_126 ?_
          refine r_iadd C dX6_readRow_127 ?_
          refine pf_X6_22 C (ws' := [(ha, oB 7 [.ref hal, vi len]), (hal, aC g 200 L), (he, oB 5 [.ref hes, vi td, vi (rw + 1)]), (hes, oB 6 [vi w, vi h, .ref hesr, .ref hesx, .ref hesy, vi n, vi m, vi c]), (hesr, aI g 11 (zU f rw b)), (hesx, aI g 10 X), (hesy, aI g 10 Y)]) dX6_readRow_128 2 rfl (Nat.le_of_ble_eq_true rfl) rfl ?_
          refine r_aload_n C dX6_readRow_131 0 rfl ?_
          refine gf_X6_12 C dX6_readRow_132 2 rfl rfl ?_
          refine gf_X6_62 C dX6_readRow_135 3 rfl rfl ?_
          refine r_iconst C dX6_readRow_138 ?_
          refine r_iadd C dX6_readRow_139 ?_
          exact e_i C (zU f rw b, rw + 1) dX6_readRow_140 (show ((w + 2) = w + 2 ∧ cR (ltr L len) k w h rw ∧ (zU f rw b) = zU f rw (rowP (isH (ltr L len) k) 0 w) ∧ (rw + 1) = rw + 1) ∨ ((w + 2) = 0 ∧ ¬ cR (ltr L len) k w h rw ∧ (zU f rw b) = f ∧ (rw + 1) = rw) from Or.inl ⟨rfl, ⟨by omega, fun u a b => hall u a (by omega), by omega⟩, by rw [hb, show x = w by omega], rfl⟩) rfl
        · skip
          refine r_iconst C dX6_readRow_106 ?_
          exact e_i C (f, rw) dX6_readRow_107 (show (0 = w + 2 ∧ cR (ltr L len) k w h rw ∧ f = zU f rw (rowP (isH (ltr L len) k) 0 w) ∧ rw = rw + 1) ∨ (0 = 0 ∧ ¬ cR (ltr L len) k w h rw ∧ f = f ∧ rw = rw) from Or.inr ⟨rfl, fun z => by have := z.2.2; omega, rfl, rfl⟩) rfl
      · skip
        refine r_aload_n C dX6_readRow_42 1 rfl ?_
        refine r_iload_n C dX6_readRow_43 2 rfl ?_
        refine r_iconst C dX6_readRow_44 ?_
        refine r_iadd C dX6_readRow_45 ?_
        refine r_iload C dX6_readRow_46 4 rfl ?_
        refine r_iadd C dX6_readRow_48 ?_
        have lb1 := hlb (k + 1 + x)
        refine k_Vi C kv_X6_38 (fun sz => c_X8_at l g ha hal L len ((k + 1) + x) (by omega) (by omega) (by omega) sz) dX6_readRow_49 rfl rfl rfl ⟨rfl, rfl⟩ 0 7 rfl rfl rfl [0, 1] rfl rfl (fun _ => rfl) (ws' := fun u_ => [(ha, oB 7 [.ref hal, vi len]), (hal, aC g 200 L), (he, oB 5 [.ref hes, vi td, vi rw]), (hes, oB 6 [vi w, vi h, .ref hesr, .ref hesx, .ref hesy, vi n, vi m, vi c]), (hesr, aI g 11 f), (hesx, aI g 10 X), (hesy, aI g 10 Y)]) (fun _ => rfl) (fun r_49 u_ p_49 => ?_)
        have p_49 : r_49 = ltr L len ((k + 1) + x) := p_49
        refine r_eq (y := (ltr L len ((k + 1) + x))) p_49 ?_
        refine r_istore C (lv' := [(5, vi (ltr L len ((k + 1) + x))), (0, .ref he), (1, .ref ha), (2, vi k), (3, vi b), (4, vi x)]) dX6_readRow_52 rfl rfl ?_
        refine r_iload C dX6_readRow_54 0 rfl ?_
        refine r_bipush C dX6_readRow_56 rfl ?_
        refine r_icmp_ne C 71 dX6_readRow_58 rfl (by omega) (fun c_5 => ?_) (fun c_5 => ?_)
        · skip
          refine r_iload C dX6_readRow_71 0 rfl ?_
          refine r_bipush C dX6_readRow_73 rfl ?_
          refine r_icmp_eq C 80 dX6_readRow_75 rfl (by omega) (fun c_6 => ?_) (fun c_6 => ?_)
          · skip
            refine r_iinc C (lv' := [(4, vi (x + 1)), (5, vi (ltr L len ((k + 1) + x))), (0, .ref he), (1, .ref ha), (2, vi k), (3, vi b)]) dX6_readRow_80 5 rfl rfl rfl ?_
            refine r_goto C 30 dX6_readRow_83 rfl ?_
            refine r_lv (lv' := [(0, .ref he), (1, .ref ha), (2, vi k), (3, vi b), (4, vi (x + 1))]) [2, 3, 4, 5, 0] rfl ?_
            exact ih_30 (x + 1, b) (show (0 ≤ (x + 1) ∧ (x + 1) ≤ w) ∧ (b = rowP (isH (ltr L len) k) 0 (x + 1)) ∧ (∀ u : Int, 0 ≤ u → u < (x + 1) → ltr L len (k + 1 + u) = 35 ∨ ltr L len (k + 1 + u) = 46) from ⟨(by omega), (by rw [hb]; exact (rowP_no hx.1 (by unfold isH; rw [if_neg (by rw [Int.mul_zero, Int.zero_add]; omega)])).symm), (fun u a b => by
      by_cases e : u = x
      · subst e; omega
      · exact hall u a (by omega))⟩) (show w - (x + 1) < w - x from by omega)
          · skip
            refine r_iconst C dX6_readRow_78 ?_
            exact e_i C (f, rw) dX6_readRow_79 (show (0 = w + 2 ∧ cR (ltr L len) k w h rw ∧ f = zU f rw (rowP (isH (ltr L len) k) 0 w) ∧ rw = rw + 1) ∨ (0 = 0 ∧ ¬ cR (ltr L len) k w h rw ∧ f = f ∧ rw = rw) from Or.inr ⟨rfl, fun z => by have := z.2.1 x hx.1 (by omega); omega, rfl, rfl⟩) rfl
        · skip
          refine r_iload_n C dX6_readRow_61 4 rfl ?_
          refine r_iconst C dX6_readRow_62 ?_
          refine r_iload C dX6_readRow_63 5 rfl ?_
          refine r_ishl C (z := (2 ^ (x).toNat)) dX6_readRow_65 (z_shl (by omega)) ?_
          refine r_ior C (z := (orI b (2 ^ x.toNat))) dX6_readRow_66 (z_or (by rw [hb]; have := rowP_b (isH_01 (ltr L len) k) 0 x.toNat; rw [Int.toNat_of_nonneg hx.1] at this; exact this.1) (two_nn _)) ?_
          refine r_istore_n C (lv' := [(3, vi (orI b (2 ^ x.toNat))), (5, vi (ltr L len ((k + 1) + x))), (0, .ref he), (1, .ref ha), (2, vi k), (4, vi x)]) dX6_readRow_67 rfl rfl ?_
          refine r_goto C 80 dX6_readRow_68 rfl ?_
          refine r_iinc C (lv' := [(4, vi (x + 1)), (3, vi (orI b (2 ^ x.toNat))), (5, vi (ltr L len ((k + 1) + x))), (0, .ref he), (1, .ref ha), (2, vi k)]) dX6_readRow_80 5 rfl rfl rfl ?_
          refine r_goto C 30 dX6_readRow_83 rfl ?_
          refine r_lv (lv' := [(0, .ref he), (1, .ref ha), (2, vi k), (3, vi (orI b (2 ^ x.toNat))), (4, vi (x + 1))]) [3, 4, 5, 1, 0] rfl ?_
          exact ih_30 (x + 1, orI b (2 ^ x.toNat)) (show (0 ≤ (x + 1) ∧ (x + 1) ≤ w) ∧ ((orI b (2 ^ x.toNat)) = rowP (isH (ltr L len) k) 0 (x + 1)) ∧ (∀ u : Int, 0 ≤ u → u < (x + 1) → ltr L len (k + 1 + u) = 35 ∨ ltr L len (k + 1 + u) = 46) from ⟨(by omega), (by rw [hb]; exact rowP_or (isH_01 _ _) hx.1 (by unfold isH; rw [if_pos (by rw [Int.mul_zero, Int.zero_add]; omega)])), (fun u a b => by
      by_cases e : u = x
      · subst e; omega
      · exact hall u a (by omega))⟩) (show w - (x + 1) < w - x from by omega)
    · skip
      refine r_iconst C dX6_readRow_23 ?_
      exact e_i C (f, rw) dX6_readRow_24 (show (0 = w + 2 ∧ cR (ltr L len) k w h rw ∧ f = zU f rw (rowP (isH (ltr L len) k) 0 w) ∧ rw = rw + 1) ∨ (0 = 0 ∧ ¬ cR (ltr L len) k w h rw ∧ f = f ∧ rw = rw) from Or.inr ⟨rfl, fun z => by have := z.1; omega, rfl, rfl⟩) rfl
set_option maxHeartbeats 1000000 in
set_option maxRecDepth 100000 in
theorem c_X6_readDot (l : Launch) (g : Gx) (ha : Nat) (hal : Nat) (L : Int → Int) (len : Int) (he : Nat) (hes : Nat) (hesr : Nat) (hesx : Nat) (hesy : Nat) (td : Int) (rw : Int) (w : Int) (h : Int) (n : Int) (m : Int) (c : Int) (f : Int → Int) (X : Int → Int) (Y : Int → Int) (k : Int) (hlen : 0 ≤ len ∧ len ≤ 200) (hL : ∀ k : Int, 0 ≤ k → k < 200 → 0 ≤ L k ∧ L k ≤ 65535) (hk : 0 ≤ k ∧ k ≤ 200) (hok : PSok (td, w, h, rw, f, n, X, Y, m, c)) (sz : Nat) : Met l yX6_readDot (.code yX6_readDot cX6_readDot 5 (some .int) :: wsL_law) { frames := 1, cells := 0, slots := 0, locals := 23 } (PR g [.ref he, .ref ha, vi k] [(ha, oB 7 [.ref hal, vi len]), (hal, aC g 200 L), (he, oB 5 [.ref hes, vi td, vi rw]), (hes, oB 6 [vi w, vi h, .ref hesr, .ref hesx, .ref hesy, vi n, vi m, vi c]), (hesr, aI g 11 f), (hesx, aI g 10 X), (hesy, aI g 10 Y)] sz) (PI (S := Int × (Int → Int) × (Int → Int)) g (fun r u_ => (r = 4 ∧ cD (ltr L len) k n X Y ∧ u_.1 = n + 1 ∧ u_.2.1 = zU X n (ltr L len (k + 1) - 102) ∧ u_.2.2 = zU Y n (ltr L len (k + 2) - 102)) ∨ (r = 0 ∧ ¬ cD (ltr L len) k n X Y ∧ u_.1 = n ∧ u_.2.1 = X ∧ u_.2.2 = Y)) (fun u_ => [(ha, oB 7 [.ref hal, vi len]), (hal, aC g 200 L), (he, oB 5 [.ref hes, vi td, vi rw]), (hes, oB 6 [vi w, vi h, .ref hesr, .ref hesx, .ref hesy, vi u_.1, vi m, vi c]), (hesr, aI g 11 f), (hesx, aI g 10 u_.2.1), (hesy, aI g 10 u_.2.2)]) [(ha, oB 7 [.ref hal, vi len]), (hal, aC g 200 L), (he, oB 5 [.ref hes, vi td, vi rw]), (hes, oB 6 [vi w, vi h, .ref hesr, .ref hesx, .ref hesy, vi n, vi m, vi c]), (hesr, aI g 11 f), (hesx, aI g 10 X), (hesy, aI g 10 Y)] sz) 0 0 (va_A [(ha, oB 7 [.ref hal, vi len]), (hal, aC g 200 L), (he, oB 5 [.ref hes, vi td, vi rw]), (hes, oB 6 [vi w, vi h, .ref hesr, .ref hesx, .ref hesy, vi n, vi m, vi c]), (hesr, aI g 11 f), (hesx, aI g 10 X), (hesy, aI g 10 Y)] sz) := by
  refine meet (own := RX6) rfl (plainFor_of_name (by decide +kernel)) rfl (fun p_ e_ s_ m_ args_ below_ meth_ c_ C hnm => ?_)
  refine r_at (ws' := [(ha, oB 7 [.ref hal, vi len]), (hal, aC g 200 L), (he, oB 5 [.ref hes, vi td, vi rw]), (hes, oB 6 [vi w, vi h, .ref hesr, .ref hesx, .ref hesy, vi n, vi m, vi c]), (hesr, aI g 11 f), (hesx, aI g 10 X), (hesy, aI g 10 Y)]) (lv' := [(0, .ref he), (1, .ref ha), (2, vi k)]) rfl rfl ?_
  have hlb : ∀ j : Int, 0 ≤ ltr L len j ∧ ltr L len j ≤ 65535 := fun j => by unfold ltr; split; exact hL j (by omega) (by omega); omega
  obtain ⟨o1, o2, o3, o4, o5, o6, o7, o8, o9, o10, o11, o12⟩ := id hok
  refine r_aload_n C dX6_readDot_0 1 rfl ?_
  refine r_iload_n C dX6_readDot_1 2 rfl ?_
  refine r_iconst C dX6_readDot_2 ?_
  refine r_iadd C dX6_readDot_3 ?_
  have lb1 := hlb (k + 1)
  refine k_Vi C kv_X6_38 (fun sz => c_X8_at l g ha hal L len (k + 1) (by omega) (by omega) (by omega) sz) dX6_readDot_4 rfl rfl rfl ⟨rfl, rfl⟩ 0 7 rfl rfl rfl [0, 1] rfl rfl (fun _ => rfl) (ws' := fun u_ => [(ha, oB 7 [.ref hal, vi len]), (hal, aC g 200 L), (he, oB 5 [.ref hes, vi td, vi rw]), (hes, oB 6 [vi w, vi h, .ref hesr, .ref hesx, .ref hesy, vi n, vi m, vi c]), (hesr, aI g 11 f), (hesx, aI g 10 X), (hesy, aI g 10 Y)]) (fun _ => rfl) (fun r_4 u_ p_4 => ?_)
  have p_4 : r_4 = ltr L len (k + 1) := p_4
  refine r_eq (y := (ltr L len (k + 1))) p_4 ?_
  refine r_bipush C dX6_readDot_7 rfl ?_
  refine r_isub C dX6_readDot_9 ?_
  refine r_iconst C dX6_readDot_10 ?_
  refine r_isub C dX6_readDot_11 ?_
  refine r_eq (y := (ltr L len (k + 1) - 102)) (by omega) ?_
  refine r_istore_n C (lv' := [(3, vi (ltr L len (k + 1) - 102)), (0, .ref he), (1, .ref ha), (2, vi k)]) dX6_readDot_12 rfl rfl ?_
  refine r_aload_n C dX6_readDot_13 2 rfl ?_
  refine r_iload_n C dX6_readDot_14 3 rfl ?_
  refine r_iconst C dX6_readDot_15 ?_
  refine r_iadd C dX6_readDot_16 ?_
  have lb2 := hlb (k + 2)
  refine k_Vi C kv_X6_38 (fun sz => c_X8_at l g ha hal L len (k + 2) (by omega) (by omega) (by omega) sz) dX6_readDot_17 rfl rfl rfl ⟨rfl, rfl⟩ 0 7 rfl rfl rfl [0, 1] rfl rfl (fun _ => rfl) (ws' := fun u_ => [(ha, oB 7 [.ref hal, vi len]), (hal, aC g 200 L), (he, oB 5 [.ref hes, vi td, vi rw]), (hes, oB 6 [vi w, vi h, .ref hesr, .ref hesx, .ref hesy, vi n, vi m, vi c]), (hesr, aI g 11 f), (hesx, aI g 10 X), (hesy, aI g 10 Y)]) (fun _ => rfl) (fun r_17 u_ p_17 => ?_)
  have p_17 : r_17 = ltr L len (k + 2) := p_17
  refine r_eq (y := (ltr L len (k + 2))) p_17 ?_
  refine r_bipush C dX6_readDot_20 rfl ?_
  refine r_isub C dX6_readDot_22 ?_
  refine r_iconst C dX6_readDot_23 ?_
  refine r_isub C dX6_readDot_24 ?_
  refine r_eq (y := (ltr L len (k + 2) - 102)) (by omega) ?_
  refine r_istore C (lv' := [(4, vi (ltr L len (k + 2) - 102)), (3, vi (ltr L len (k + 1) - 102)), (0, .ref he), (1, .ref ha), (2, vi k)]) dX6_readDot_25 rfl rfl ?_
  refine r_bipush C dX6_readDot_27 rfl ?_
  refine r_iload_n C dX6_readDot_29 1 rfl ?_
  refine r_iconst C dX6_readDot_30 ?_
  refine k_Ni C kn_X6_58 (fun sz => c_X11_isFrom l g (-5) (ltr L len (k + 1) - 102) 5 (by omega) (by omega) (by omega) sz) dX6_readDot_31 rfl rfl rfl ⟨rfl, rfl⟩ [] rfl rfl (fun _ => rfl) (ws' := fun u_ => [(ha, oB 7 [.ref hal, vi len]), (hal, aC g 200 L), (he, oB 5 [.ref hes, vi td, vi rw]), (hes, oB 6 [vi w, vi h, .ref hesr, .ref hesx, .ref hesy, vi n, vi m, vi c]), (hesr, aI g 11 f), (hesx, aI g 10 X), (hesy, aI g 10 Y)]) (fun _ => rfl) (fun r_31 u_ p_31 => ?_)
  have p_31 : (r_31 = 1 ∧ (-5) ≤ (ltr L len (k + 1) - 102) ∧ (ltr L len (k + 1) - 102) ≤ 5) ∨ (r_31 = 0 ∧ ¬ ((-5) ≤ (ltr L len (k + 1) - 102) ∧ (ltr L len (k + 1) - 102) ≤ 5)) := p_31
  refine r_if_eq C 85 dX6_readDot_34 rfl (by omega) (fun c_1 => ?_) (fun c_1 => ?_)
  · skip
    refine r_iconst C dX6_readDot_85 ?_
    exact e_i C (n, X, Y) dX6_readDot_86 (show (0 = 4 ∧ cD (ltr L len) k n X Y ∧ n = n + 1 ∧ X = zU X n (ltr L len (k + 1) - 102) ∧ Y = zU Y n (ltr L len (k + 2) - 102)) ∨ (0 = 0 ∧ ¬ cD (ltr L len) k n X Y ∧ n = n ∧ X = X ∧ Y = Y) from Or.inr ⟨rfl, fun z => by have := z.1; omega, rfl, rfl, rfl⟩) rfl
  · skip
    refine r_bipush C dX6_readDot_37 rfl ?_
    refine r_iload C dX6_readDot_39 0 rfl ?_
    refine r_iconst C dX6_readDot_41 ?_
    refine k_Ni C kn_X6_58 (fun sz => c_X11_isFrom l g (-5) (ltr L len (k + 2) - 102) 5 (by omega) (by omega) (by omega) sz) dX6_readDot_42 rfl rfl rfl ⟨rfl, rfl⟩ [] rfl rfl (fun _ => rfl) (ws' := fun u_ => [(ha, oB 7 [.ref hal, vi len]), (hal, aC g 200 L), (he, oB 5 [.ref hes, vi td, vi rw]), (hes, oB 6 [vi w, vi h, .ref hesr, .ref hesx, .ref hesy, vi n, vi m, vi c]), (hesr, aI g 11 f), (hesx, aI g 10 X), (hesy, aI g 10 Y)]) (fun _ => rfl) (fun r_42 u_ p_42 => ?_)
    have p_42 : (r_42 = 1 ∧ (-5) ≤ (ltr L len (k + 2) - 102) ∧ (ltr L len (k + 2) - 102) ≤ 5) ∨ (r_42 = 0 ∧ ¬ ((-5) ≤ (ltr L len (k + 2) - 102) ∧ (ltr L len (k + 2) - 102) ≤ 5)) := p_42
    refine r_if_eq C 85 dX6_readDot_45 rfl (by omega) (fun c_2 => ?_) (fun c_2 => ?_)
    · skip
      refine r_iconst C dX6_readDot_85 ?_
      exact e_i C (n, X, Y) dX6_readDot_86 (show (0 = 4 ∧ cD (ltr L len) k n X Y ∧ n = n + 1 ∧ X = zU X n (ltr L len (k + 1) - 102) ∧ Y = zU Y n (ltr L len (k + 2) - 102)) ∨ (0 = 0 ∧ ¬ cD (ltr L len) k n X Y ∧ n = n ∧ X = X ∧ Y = Y) from Or.inr ⟨rfl, fun z => by have := z.2.1; omega, rfl, rfl, rfl⟩) rfl
    · skip
      refine r_aload_n C dX6_readDot_48 3 rfl ?_
      refine r_iload_n C dX6_readDot_49 4 rfl ?_
      refine r_iconst C dX6_readDot_50 ?_
      refine r_iadd C dX6_readDot_51 ?_
      have lb3 := hlb (k + 3)
      refine k_Vi C kv_X6_38 (fun sz => c_X8_at l g ha hal L len (k + 3) (by omega) (by omega) (by omega) sz) dX6_readDot_52 rfl rfl rfl ⟨rfl, rfl⟩ 0 7 rfl rfl rfl [0, 1] rfl rfl (fun _ => rfl) (ws' := fun u_ => [(ha, oB 7 [.ref hal, vi len]), (hal, aC g 200 L), (he, oB 5 [.ref hes, vi td, vi rw]), (hes, oB 6 [vi w, vi h, .ref hesr, .ref hesx, .ref hesy, vi n, vi m, vi c]), (hesr, aI g 11 f), (hesx, aI g 10 X), (hesy, aI g 10 Y)]) (fun _ => rfl) (fun r_52 u_ p_52 => ?_)
      have p_52 : r_52 = ltr L len (k + 3) := p_52
      refine r_eq (y := (ltr L len (k + 3))) p_52 ?_
      refine r_bipush C dX6_readDot_55 rfl ?_
      refine r_icmp_ne C 85 dX6_readDot_57 rfl (by omega) (fun c_3 => ?_) (fun c_3 => ?_)
      · skip
        refine r_iconst C dX6_readDot_85 ?_
        exact e_i C (n, X, Y) dX6_readDot_86 (show (0 = 4 ∧ cD (ltr L len) k n X Y ∧ n = n + 1 ∧ X = zU X n (ltr L len (k + 1) - 102) ∧ Y = zU Y n (ltr L len (k + 2) - 102)) ∨ (0 = 0 ∧ ¬ cD (ltr L len) k n X Y ∧ n = n ∧ X = X ∧ Y = Y) from Or.inr ⟨rfl, fun z => by have := z.2.2.1; omega, rfl, rfl, rfl⟩) rfl
      · skip
        refine r_aload_n C dX6_readDot_60 2 rfl ?_
        refine gf_X6_12 C dX6_readDot_61 2 rfl rfl ?_
        refine gf_X6_72 C dX6_readDot_64 3 rfl rfl ?_
        refine r_bipush C dX6_readDot_67 rfl ?_
        refine r_icmp_ge C 85 dX6_readDot_69 rfl (by omega) (fun c_4 => ?_) (fun c_4 => ?_)
        · skip
          refine r_iconst C dX6_readDot_85 ?_
          exact e_i C (n, X, Y) dX6_readDot_86 (show (0 = 4 ∧ cD (ltr L len) k n X Y ∧ n = n + 1 ∧ X = zU X n (ltr L len (k + 1) - 102) ∧ Y = zU Y n (ltr L len (k + 2) - 102)) ∨ (0 = 0 ∧ ¬ cD (ltr L len) k n X Y ∧ n = n ∧ X = X ∧ Y = Y) from Or.inr ⟨rfl, fun z => by have := z.2.2.2.1; omega, rfl, rfl, rfl⟩) rfl
        · skip
          refine r_aload_n C dX6_readDot_72 2 rfl ?_
          refine gf_X6_12 C dX6_readDot_73 2 rfl rfl ?_
          refine r_iload_n C dX6_readDot_76 1 rfl ?_
          refine r_iload C dX6_readDot_77 0 rfl ?_
          refine k_Vi C kv_X6_75 (fun sz => c_X7_hasDot l g hes hesr hesx hesy w h n m c X Y (ltr L len (k + 1) - 102) (ltr L len (k + 2) - 102) (by omega) o8 o9 (by omega) (by omega) sz) dX6_readDot_79 rfl rfl rfl ⟨rfl, rfl⟩ 3 6 rfl rfl rfl [3, 5, 6] rfl rfl (fun _ => rfl) (ws' := fun u_ => [(ha, oB 7 [.ref hal, vi len]), (hal, aC g 200 L), (he, oB 5 [.ref hes, vi td, vi rw]), (hes, oB 6 [vi w, vi h, .ref hesr, .ref hesx, .ref hesy, vi n, vi m, vi c]), (hesr, aI g 11 f), (hesx, aI g 10 X), (hesy, aI g 10 Y)]) (fun _ => rfl) (fun r_79 u_ p_79 => ?_)
          have p_79 : (r_79 = 1 ∧ ∃ d : Int, 0 ≤ d ∧ d < n ∧ X d = (ltr L len (k + 1) - 102) ∧ Y d = (ltr L len (k + 2) - 102)) ∨ (r_79 = 0 ∧ ∀ d : Int, 0 ≤ d → d < n → ¬ (X d = (ltr L len (k + 1) - 102) ∧ Y d = (ltr L len (k + 2) - 102))) := p_79
          refine r_if_eq C 87 dX6_readDot_82 rfl (by omega) (fun c_5 => ?_) (fun c_5 => ?_)
          · skip
            refine r_aload_n C dX6_readDot_87 2 rfl ?_
            refine gf_X6_12 C dX6_readDot_88 2 rfl rfl ?_
            refine r_iload_n C dX6_readDot_91 1 rfl ?_
            refine r_iload C dX6_readDot_92 0 rfl ?_
            refine k_Vv C kv_X6_79 (fun sz => c_X7_addDot l g hes hesr hesx hesy w h n m c X Y (ltr L len (k + 1) - 102) (ltr L len (k + 2) - 102) (by omega) sz) dX6_readDot_94 rfl rfl rfl ⟨rfl, rfl⟩ 3 6 rfl rfl rfl [3, 5, 6] rfl rfl (fun _ => rfl) (ws' := fun u_ => [(ha, oB 7 [.ref hal, vi len]), (hal, aC g 200 L), (he, oB 5 [.ref hes, vi td, vi rw]), (hes, oB 6 [vi w, vi h, .ref hesr, .ref hesx, .ref hesy, vi (n + 1), vi m, vi c]), (hesr, aI g 11 f), (hesx, aI g 10 (zU X n (ltr L len (k + 1) - 102))), (hesy, aI g 10 (zU Y n (ltr L len (k + 2) - 102)))]) (fun _ => rfl) (fun u_ p_94 => ?_)
            refine r_iconst C dX6_readDot_97 ?_
            exact e_i C (n + 1, zU X n (ltr L len (k + 1) - 102), zU Y n (ltr L len (k + 2) - 102)) dX6_readDot_98 (show (4 = 4 ∧ cD (ltr L len) k n X Y ∧ (n + 1) = n + 1 ∧ (zU X n (ltr L len (k + 1) - 102)) = zU X n (ltr L len (k + 1) - 102) ∧ (zU Y n (ltr L len (k + 2) - 102)) = zU Y n (ltr L len (k + 2) - 102)) ∨ (4 = 0 ∧ ¬ cD (ltr L len) k n X Y ∧ (n + 1) = n ∧ (zU X n (ltr L len (k + 1) - 102)) = X ∧ (zU Y n (ltr L len (k + 2) - 102)) = Y) from Or.inl ⟨rfl, ⟨by omega, by omega, by omega, by omega, by rcases p_79 with q | q; omega; exact q.2⟩, rfl, rfl, rfl⟩) rfl
          · skip
            refine r_iconst C dX6_readDot_85 ?_
            exact e_i C (n, X, Y) dX6_readDot_86 (show (0 = 4 ∧ cD (ltr L len) k n X Y ∧ n = n + 1 ∧ X = zU X n (ltr L len (k + 1) - 102) ∧ Y = zU Y n (ltr L len (k + 2) - 102)) ∨ (0 = 0 ∧ ¬ cD (ltr L len) k n X Y ∧ n = n ∧ X = X ∧ Y = Y) from Or.inr ⟨rfl, fun z => by rcases p_79 with q | q; obtain ⟨d, d0, d1, d2⟩ := q.2; exact z.2.2.2.2 d d0 d1 d2; omega, rfl, rfl, rfl⟩) rfl
set_option maxHeartbeats 1000000 in
set_option maxRecDepth 100000 in
theorem c_X6_readMetric (l : Launch) (g : Gx) (ha : Nat) (hal : Nat) (L : Int → Int) (len : Int) (he : Nat) (hes : Nat) (hesr : Nat) (hesx : Nat) (hesy : Nat) (td : Int) (rw : Int) (w : Int) (h : Int) (n : Int) (m : Int) (c : Int) (f : Int → Int) (X : Int → Int) (Y : Int → Int) (k : Int) (hlen : 0 ≤ len ∧ len ≤ 200) (hL : ∀ k : Int, 0 ≤ k → k < 200 → 0 ≤ L k ∧ L k ≤ 65535) (hk : 0 ≤ k ∧ k ≤ 200) (hok : PSok (td, w, h, rw, f, n, X, Y, m, c)) (sz : Nat) : Met l yX6_readMetric (.code yX6_readMetric cX6_readMetric 6 (some .int) :: wsL_law) { frames := 1, cells := 0, slots := 0, locals := 22 } (PR g [.ref he, .ref ha, vi k] [(ha, oB 7 [.ref hal, vi len]), (hal, aC g 200 L), (he, oB 5 [.ref hes, vi td, vi rw]), (hes, oB 6 [vi w, vi h, .ref hesr, .ref hesx, .ref hesy, vi n, vi m, vi c]), (hesr, aI g 11 f), (hesx, aI g 10 X), (hesy, aI g 10 Y)] sz) (PI (S := Int × Int) g (fun r u_ => (r = 5 ∧ cM (ltr L len) k ∧ u_.1 = ltr L len (k + 1) - 48 ∧ u_.2 = 10 * (ltr L len (k + 2) - 48) + (ltr L len (k + 3) - 48)) ∨ (r = 0 ∧ ¬ cM (ltr L len) k ∧ u_.1 = m ∧ u_.2 = c)) (fun u_ => [(ha, oB 7 [.ref hal, vi len]), (hal, aC g 200 L), (he, oB 5 [.ref hes, vi td, vi rw]), (hes, oB 6 [vi w, vi h, .ref hesr, .ref hesx, .ref hesy, vi n, vi u_.1, vi u_.2]), (hesr, aI g 11 f), (hesx, aI g 10 X), (hesy, aI g 10 Y)]) [(ha, oB 7 [.ref hal, vi len]), (hal, aC g 200 L), (he, oB 5 [.ref hes, vi td, vi rw]), (hes, oB 6 [vi w, vi h, .ref hesr, .ref hesx, .ref hesy, vi n, vi m, vi c]), (hesr, aI g 11 f), (hesx, aI g 10 X), (hesy, aI g 10 Y)] sz) 0 0 (va_A [(ha, oB 7 [.ref hal, vi len]), (hal, aC g 200 L), (he, oB 5 [.ref hes, vi td, vi rw]), (hes, oB 6 [vi w, vi h, .ref hesr, .ref hesx, .ref hesy, vi n, vi m, vi c]), (hesr, aI g 11 f), (hesx, aI g 10 X), (hesy, aI g 10 Y)] sz) := by
  refine meet (own := RX6) rfl (plainFor_of_name (by decide +kernel)) rfl (fun p_ e_ s_ m_ args_ below_ meth_ c_ C hnm => ?_)
  refine r_at (ws' := [(ha, oB 7 [.ref hal, vi len]), (hal, aC g 200 L), (he, oB 5 [.ref hes, vi td, vi rw]), (hes, oB 6 [vi w, vi h, .ref hesr, .ref hesx, .ref hesy, vi n, vi m, vi c]), (hesr, aI g 11 f), (hesx, aI g 10 X), (hesy, aI g 10 Y)]) (lv' := [(0, .ref he), (1, .ref ha), (2, vi k)]) rfl rfl ?_
  have hlb : ∀ j : Int, 0 ≤ ltr L len j ∧ ltr L len j ≤ 65535 := fun j => by unfold ltr; split; exact hL j (by omega) (by omega); omega
  obtain ⟨o1, o2, o3, o4, o5, o6, o7, o8, o9, o10, o11, o12⟩ := id hok
  refine r_aload_n C dX6_readMetric_0 1 rfl ?_
  refine r_iload_n C dX6_readMetric_1 2 rfl ?_
  refine r_iconst C dX6_readMetric_2 ?_
  refine r_iadd C dX6_readMetric_3 ?_
  have lb1 := hlb (k + 1)
  refine k_Vi C kv_X6_38 (fun sz => c_X8_at l g ha hal L len (k + 1) (by omega) (by omega) (by omega) sz) dX6_readMetric_4 rfl rfl rfl ⟨rfl, rfl⟩ 0 7 rfl rfl rfl [0, 1] rfl rfl (fun _ => rfl) (ws' := fun u_ => [(ha, oB 7 [.ref hal, vi len]), (hal, aC g 200 L), (he, oB 5 [.ref hes, vi td, vi rw]), (hes, oB 6 [vi w, vi h, .ref hesr, .ref hesx, .ref hesy, vi n, vi m, vi c]), (hesr, aI g 11 f), (hesx, aI g 10 X), (hesy, aI g 10 Y)]) (fun _ => rfl) (fun r_4 u_ p_4 => ?_)
  have p_4 : r_4 = ltr L len (k + 1) := p_4
  refine r_eq (y := (ltr L len (k + 1))) p_4 ?_
  refine r_bipush C dX6_readMetric_7 rfl ?_
  refine r_isub C dX6_readMetric_9 ?_
  refine r_istore_n C (lv' := [(3, vi ((ltr L len (k + 1)) - 48)), (0, .ref he), (1, .ref ha), (2, vi k)]) dX6_readMetric_10 rfl rfl ?_
  refine r_aload_n C dX6_readMetric_11 2 rfl ?_
  refine r_iload_n C dX6_readMetric_12 3 rfl ?_
  refine r_iconst C dX6_readMetric_13 ?_
  refine r_iadd C dX6_readMetric_14 ?_
  have lb2 := hlb (k + 2)
  refine k_Vi C kv_X6_38 (fun sz => c_X8_at l g ha hal L len (k + 2) (by omega) (by omega) (by omega) sz) dX6_readMetric_15 rfl rfl rfl ⟨rfl, rfl⟩ 0 7 rfl rfl rfl [0, 1] rfl rfl (fun _ => rfl) (ws' := fun u_ => [(ha, oB 7 [.ref hal, vi len]), (hal, aC g 200 L), (he, oB 5 [.ref hes, vi td, vi rw]), (hes, oB 6 [vi w, vi h, .ref hesr, .ref hesx, .ref hesy, vi n, vi m, vi c]), (hesr, aI g 11 f), (hesx, aI g 10 X), (hesy, aI g 10 Y)]) (fun _ => rfl) (fun r_15 u_ p_15 => ?_)
  have p_15 : r_15 = ltr L len (k + 2) := p_15
  refine r_eq (y := (ltr L len (k + 2))) p_15 ?_
  refine r_bipush C dX6_readMetric_18 rfl ?_
  refine r_isub C dX6_readMetric_20 ?_
  refine r_istore C (lv' := [(4, vi ((ltr L len (k + 2)) - 48)), (3, vi ((ltr L len (k + 1)) - 48)), (0, .ref he), (1, .ref ha), (2, vi k)]) dX6_readMetric_21 rfl rfl ?_
  refine r_aload_n C dX6_readMetric_23 3 rfl ?_
  refine r_iload_n C dX6_readMetric_24 4 rfl ?_
  refine r_iconst C dX6_readMetric_25 ?_
  refine r_iadd C dX6_readMetric_26 ?_
  have lb3 := hlb (k + 3)
  refine k_Vi C kv_X6_38 (fun sz => c_X8_at l g ha hal L len (k + 3) (by omega) (by omega) (by omega) sz) dX6_readMetric_27 rfl rfl rfl ⟨rfl, rfl⟩ 0 7 rfl rfl rfl [0, 1] rfl rfl (fun _ => rfl) (ws' := fun u_ => [(ha, oB 7 [.ref hal, vi len]), (hal, aC g 200 L), (he, oB 5 [.ref hes, vi td, vi rw]), (hes, oB 6 [vi w, vi h, .ref hesr, .ref hesx, .ref hesy, vi n, vi m, vi c]), (hesr, aI g 11 f), (hesx, aI g 10 X), (hesy, aI g 10 Y)]) (fun _ => rfl) (fun r_27 u_ p_27 => ?_)
  have p_27 : r_27 = ltr L len (k + 3) := p_27
  refine r_eq (y := (ltr L len (k + 3))) p_27 ?_
  refine r_bipush C dX6_readMetric_30 rfl ?_
  refine r_isub C dX6_readMetric_32 ?_
  refine r_istore C (lv' := [(5, vi ((ltr L len (k + 3)) - 48)), (4, vi ((ltr L len (k + 2)) - 48)), (3, vi ((ltr L len (k + 1)) - 48)), (0, .ref he), (1, .ref ha), (2, vi k)]) dX6_readMetric_33 rfl rfl ?_
  refine r_iconst C dX6_readMetric_35 ?_
  refine r_iload_n C dX6_readMetric_36 2 rfl ?_
  refine r_iconst C dX6_readMetric_37 ?_
  refine k_Ni C kn_X6_58 (fun sz => c_X11_isFrom l g 0 ((ltr L len (k + 1)) - 48) 2 (by omega) (by omega) (by omega) sz) dX6_readMetric_38 rfl rfl rfl ⟨rfl, rfl⟩ [] rfl rfl (fun _ => rfl) (ws' := fun u_ => [(ha, oB 7 [.ref hal, vi len]), (hal, aC g 200 L), (he, oB 5 [.ref hes, vi td, vi rw]), (hes, oB 6 [vi w, vi h, .ref hesr, .ref hesx, .ref hesy, vi n, vi m, vi c]), (hesr, aI g 11 f), (hesx, aI g 10 X), (hesy, aI g 10 Y)]) (fun _ => rfl) (fun r_38 u_ p_38 => ?_)
  have p_38 : (r_38 = 1 ∧ 0 ≤ ((ltr L len (k + 1)) - 48) ∧ ((ltr L len (k + 1)) - 48) ≤ 2) ∨ (r_38 = 0 ∧ ¬ (0 ≤ ((ltr L len (k + 1)) - 48) ∧ ((ltr L len (k + 1)) - 48) ≤ 2)) := p_38
  refine r_if_eq C 86 dX6_readMetric_41 rfl (by omega) (fun c_1 => ?_) (fun c_1 => ?_)
  · skip
    refine r_iconst C dX6_readMetric_86 ?_
    exact e_i C (m, c) dX6_readMetric_87 (show (0 = 5 ∧ cM (ltr L len) k ∧ m = ltr L len (k + 1) - 48 ∧ c = 10 * (ltr L len (k + 2) - 48) + (ltr L len (k + 3) - 48)) ∨ (0 = 0 ∧ ¬ cM (ltr L len) k ∧ m = m ∧ c = c) from Or.inr ⟨rfl, fun z => by unfold cM at z; omega, rfl, rfl⟩) rfl
  · skip
    refine r_iconst C dX6_readMetric_44 ?_
    refine r_iload C dX6_readMetric_45 1 rfl ?_
    refine r_bipush C dX6_readMetric_47 rfl ?_
    refine k_Ni C kn_X6_58 (fun sz => c_X11_isFrom l g 0 ((ltr L len (k + 2)) - 48) 9 (by omega) (by omega) (by omega) sz) dX6_readMetric_49 rfl rfl rfl ⟨rfl, rfl⟩ [] rfl rfl (fun _ => rfl) (ws' := fun u_ => [(ha, oB 7 [.ref hal, vi len]), (hal, aC g 200 L), (he, oB 5 [.ref hes, vi td, vi rw]), (hes, oB 6 [vi w, vi h, .ref hesr, .ref hesx, .ref hesy, vi n, vi m, vi c]), (hesr, aI g 11 f), (hesx, aI g 10 X), (hesy, aI g 10 Y)]) (fun _ => rfl) (fun r_49 u_ p_49 => ?_)
    have p_49 : (r_49 = 1 ∧ 0 ≤ ((ltr L len (k + 2)) - 48) ∧ ((ltr L len (k + 2)) - 48) ≤ 9) ∨ (r_49 = 0 ∧ ¬ (0 ≤ ((ltr L len (k + 2)) - 48) ∧ ((ltr L len (k + 2)) - 48) ≤ 9)) := p_49
    refine r_if_eq C 86 dX6_readMetric_52 rfl (by omega) (fun c_2 => ?_) (fun c_2 => ?_)
    · skip
      refine r_iconst C dX6_readMetric_86 ?_
      exact e_i C (m, c) dX6_readMetric_87 (show (0 = 5 ∧ cM (ltr L len) k ∧ m = ltr L len (k + 1) - 48 ∧ c = 10 * (ltr L len (k + 2) - 48) + (ltr L len (k + 3) - 48)) ∨ (0 = 0 ∧ ¬ cM (ltr L len) k ∧ m = m ∧ c = c) from Or.inr ⟨rfl, fun z => by unfold cM at z; omega, rfl, rfl⟩) rfl
    · skip
      refine r_iconst C dX6_readMetric_55 ?_
      refine r_iload C dX6_readMetric_56 0 rfl ?_
      refine r_bipush C dX6_readMetric_58 rfl ?_
      refine k_Ni C kn_X6_58 (fun sz => c_X11_isFrom l g 0 ((ltr L len (k + 3)) - 48) 9 (by omega) (by omega) (by omega) sz) dX6_readMetric_60 rfl rfl rfl ⟨rfl, rfl⟩ [] rfl rfl (fun _ => rfl) (ws' := fun u_ => [(ha, oB 7 [.ref hal, vi len]), (hal, aC g 200 L), (he, oB 5 [.ref hes, vi td, vi rw]), (hes, oB 6 [vi w, vi h, .ref hesr, .ref hesx, .ref hesy, vi n, vi m, vi c]), (hesr, aI g 11 f), (hesx, aI g 10 X), (hesy, aI g 10 Y)]) (fun _ => rfl) (fun r_60 u_ p_60 => ?_)
      have p_60 : (r_60 = 1 ∧ 0 ≤ ((ltr L len (k + 3)) - 48) ∧ ((ltr L len (k + 3)) - 48) ≤ 9) ∨ (r_60 = 0 ∧ ¬ (0 ≤ ((ltr L len (k + 3)) - 48) ∧ ((ltr L len (k + 3)) - 48) ≤ 9)) := p_60
      refine r_if_eq C 86 dX6_readMetric_63 rfl (by omega) (fun c_3 => ?_) (fun c_3 => ?_)
      · skip
        refine r_iconst C dX6_readMetric_86 ?_
        exact e_i C (m, c) dX6_readMetric_87 (show (0 = 5 ∧ cM (ltr L len) k ∧ m = ltr L len (k + 1) - 48 ∧ c = 10 * (ltr L len (k + 2) - 48) + (ltr L len (k + 3) - 48)) ∨ (0 = 0 ∧ ¬ cM (ltr L len) k ∧ m = m ∧ c = c) from Or.inr ⟨rfl, fun z => by unfold cM at z; omega, rfl, rfl⟩) rfl
      · skip
        refine r_iload C dX6_readMetric_66 1 rfl ?_
        refine r_iload C dX6_readMetric_68 0 rfl ?_
        refine r_iadd C dX6_readMetric_70 ?_
        refine r_if_eq C 86 dX6_readMetric_71 rfl (by omega) (fun c_4 => ?_) (fun c_4 => ?_)
        · skip
          refine r_iconst C dX6_readMetric_86 ?_
          exact e_i C (m, c) dX6_readMetric_87 (show (0 = 5 ∧ cM (ltr L len) k ∧ m = ltr L len (k + 1) - 48 ∧ c = 10 * (ltr L len (k + 2) - 48) + (ltr L len (k + 3) - 48)) ∨ (0 = 0 ∧ ¬ cM (ltr L len) k ∧ m = m ∧ c = c) from Or.inr ⟨rfl, fun z => by unfold cM at z; omega, rfl, rfl⟩) rfl
        · skip
          refine r_aload_n C dX6_readMetric_74 4 rfl ?_
          refine r_iload_n C dX6_readMetric_75 5 rfl ?_
          refine r_iconst C dX6_readMetric_76 ?_
          refine r_iadd C dX6_readMetric_77 ?_
          have lb4 := hlb (k + 4)
          refine k_Vi C kv_X6_38 (fun sz => c_X8_at l g ha hal L len (k + 4) (by omega) (by omega) (by omega) sz) dX6_readMetric_78 rfl rfl rfl ⟨rfl, rfl⟩ 0 7 rfl rfl rfl [0, 1] rfl rfl (fun _ => rfl) (ws' := fun u_ => [(ha, oB 7 [.ref hal, vi len]), (hal, aC g 200 L), (he, oB 5 [.ref hes, vi td, vi rw]), (hes, oB 6 [vi w, vi h, .ref hesr, .ref hesx, .ref hesy, vi n, vi m, vi c]), (hesr, aI g 11 f), (hesx, aI g 10 X), (hesy, aI g 10 Y)]) (fun _ => rfl) (fun r_78 u_ p_78 => ?_)
          have p_78 : r_78 = ltr L len (k + 4) := p_78
          refine r_eq (y := (ltr L len (k + 4))) p_78 ?_
          refine r_bipush C dX6_readMetric_81 rfl ?_
          refine r_icmp_eq C 88 dX6_readMetric_83 rfl (by omega) (fun c_5 => ?_) (fun c_5 => ?_)
          · skip
            refine r_aload_n C dX6_readMetric_88 3 rfl ?_
            refine gf_X6_12 C dX6_readMetric_89 2 rfl rfl ?_
            refine r_iload_n C dX6_readMetric_92 2 rfl ?_
            refine pf_X6_83 C (ws' := [(ha, oB 7 [.ref hal, vi len]), (hal, aC g 200 L), (he, oB 5 [.ref hes, vi td, vi rw]), (hes, oB 6 [vi w, vi h, .ref hesr, .ref hesx, .ref hesy, vi n, vi ((ltr L len (k + 1)) - 48), vi c]), (hesr, aI g 11 f), (hesx, aI g 10 X), (hesy, aI g 10 Y)]) dX6_readMetric_93 3 rfl (Nat.le_of_ble_eq_true rfl) rfl ?_
            refine r_aload_n C dX6_readMetric_96 3 rfl ?_
            refine gf_X6_12 C dX6_readMetric_97 2 rfl rfl ?_
            refine r_bipush C dX6_readMetric_100 rfl ?_
            refine r_iload C dX6_readMetric_102 1 rfl ?_
            refine r_imul C dX6_readMetric_104 ?_
            refine r_iload C dX6_readMetric_105 0 rfl ?_
            refine r_iadd C dX6_readMetric_107 ?_
            refine pf_X6_86 C (ws' := [(ha, oB 7 [.ref hal, vi len]), (hal, aC g 200 L), (he, oB 5 [.ref hes, vi td, vi rw]), (hes, oB 6 [vi w, vi h, .ref hesr, .ref hesx, .ref hesy, vi n, vi ((ltr L len (k + 1)) - 48), vi ((10 * ((ltr L len (k + 2)) - 48)) + ((ltr L len (k + 3)) - 48))]), (hesr, aI g 11 f), (hesx, aI g 10 X), (hesy, aI g 10 Y)]) dX6_readMetric_108 3 rfl (Nat.le_of_ble_eq_true rfl) rfl ?_
            refine r_iconst C dX6_readMetric_111 ?_
            exact e_i C ((ltr L len (k + 1)) - 48, (10 * ((ltr L len (k + 2)) - 48)) + ((ltr L len (k + 3)) - 48)) dX6_readMetric_112 (show (5 = 5 ∧ cM (ltr L len) k ∧ ((ltr L len (k + 1)) - 48) = ltr L len (k + 1) - 48 ∧ ((10 * ((ltr L len (k + 2)) - 48)) + ((ltr L len (k + 3)) - 48)) = 10 * (ltr L len (k + 2) - 48) + (ltr L len (k + 3) - 48)) ∨ (5 = 0 ∧ ¬ cM (ltr L len) k ∧ ((ltr L len (k + 1)) - 48) = m ∧ ((10 * ((ltr L len (k + 2)) - 48)) + ((ltr L len (k + 3)) - 48)) = c) from Or.inl ⟨rfl, ⟨by omega, by omega, by omega, by omega, by omega⟩, rfl, rfl⟩) rfl
          · skip
            refine r_iconst C dX6_readMetric_86 ?_
            exact e_i C (m, c) dX6_readMetric_87 (show (0 = 5 ∧ cM (ltr L len) k ∧ m = ltr L len (k + 1) - 48 ∧ c = 10 * (ltr L len (k + 2) - 48) + (ltr L len (k + 3) - 48)) ∨ (0 = 0 ∧ ¬ cM (ltr L len) k ∧ m = m ∧ c = c) from Or.inr ⟨rfl, fun z => by unfold cM at z; omega, rfl, rfl⟩) rfl
set_option maxHeartbeats 1000000 in
set_option maxRecDepth 100000 in
theorem c_X6_readItem (l : Launch) (g : Gx) (ha : Nat) (hal : Nat) (L : Int → Int) (len : Int) (he : Nat) (hes : Nat) (hesr : Nat) (hesx : Nat) (hesy : Nat) (td : Int) (rw : Int) (w : Int) (h : Int) (n : Int) (m : Int) (c : Int) (f : Int → Int) (X : Int → Int) (Y : Int → Int) (k : Int) (hlen : 0 ≤ len ∧ len ≤ 200) (hL : ∀ k : Int, 0 ≤ k → k < 200 → 0 ≤ L k ∧ L k ≤ 65535) (hk : 0 ≤ k ∧ k ≤ 200) (hok : PSok (td, w, h, rw, f, n, X, Y, m, c)) (sz : Nat) : Met l yX6_readItem (.code yX6_readItem cX6_readItem 4 (some .int) :: wsL_law) { frames := 2, cells := 0, slots := 0, locals := 47 } (PR g [.ref he, .ref ha, vi k] [(ha, oB 7 [.ref hal, vi len]), (hal, aC g 200 L), (he, oB 5 [.ref hes, vi td, vi rw]), (hes, oB 6 [vi w, vi h, .ref hesr, .ref hesx, .ref hesy, vi n, vi m, vi c]), (hesr, aI g 11 f), (hesx, aI g 10 X), (hesy, aI g 10 Y)] sz) (PI (S := Int × Int × Int × Int × (Int → Int) × Int × (Int → Int) × (Int → Int) × Int × Int) g (fun r u_ => (itm (ltr L len) k (td, w, h, rw, f, n, X, Y, m, c) = some (r, (u_.1, u_.2.1, u_.2.2.1, u_.2.2.2.1, u_.2.2.2.2.1, u_.2.2.2.2.2.1, u_.2.2.2.2.2.2.1, u_.2.2.2.2.2.2.2.1, u_.2.2.2.2.2.2.2.2.1, u_.2.2.2.2.2.2.2.2.2)) ∧ 4 ≤ r ∧ r ≤ 13) ∨ (r = 0 ∧ itm (ltr L len) k (td, w, h, rw, f, n, X, Y, m, c) = none ∧ (u_.1, u_.2.1, u_.2.2.1, u_.2.2.2.1, u_.2.2.2.2.1, u_.2.2.2.2.2.1, u_.2.2.2.2.2.2.1, u_.2.2.2.2.2.2.2.1, u_.2.2.2.2.2.2.2.2.1, u_.2.2.2.2.2.2.2.2.2) = (td, w, h, rw, f, n, X, Y, m, c))) (fun u_ => [(ha, oB 7 [.ref hal, vi len]), (hal, aC g 200 L), (he, oB 5 [.ref hes, vi u_.1, vi u_.2.2.2.1]), (hes, oB 6 [vi u_.2.1, vi u_.2.2.1, .ref hesr, .ref hesx, .ref hesy, vi u_.2.2.2.2.2.1, vi u_.2.2.2.2.2.2.2.2.1, vi u_.2.2.2.2.2.2.2.2.2]), (hesr, aI g 11 u_.2.2.2.2.1), (hesx, aI g 10 u_.2.2.2.2.2.2.1), (hesy, aI g 10 u_.2.2.2.2.2.2.2.1)]) [(ha, oB 7 [.ref hal, vi len]), (hal, aC g 200 L), (he, oB 5 [.ref hes, vi td, vi rw]), (hes, oB 6 [vi w, vi h, .ref hesr, .ref hesx, .ref hesy, vi n, vi m, vi c]), (hesr, aI g 11 f), (hesx, aI g 10 X), (hesy, aI g 10 Y)] sz) 0 0 (va_A [(ha, oB 7 [.ref hal, vi len]), (hal, aC g 200 L), (he, oB 5 [.ref hes, vi td, vi rw]), (hes, oB 6 [vi w, vi h, .ref hesr, .ref hesx, .ref hesy, vi n, vi m, vi c]), (hesr, aI g 11 f), (hesx, aI g 10 X), (hesy, aI g 10 Y)] sz) := by
  refine meet (own := RX6) rfl (plainFor_of_name (by decide +kernel)) rfl (fun p_ e_ s_ m_ args_ below_ meth_ c_ C hnm => ?_)
  refine r_at (ws' := [(ha, oB 7 [.ref hal, vi len]), (hal, aC g 200 L), (he, oB 5 [.ref hes, vi td, vi rw]), (hes, oB 6 [vi w, vi h, .ref hesr, .ref hesx, .ref hesy, vi n, vi m, vi c]), (hesr, aI g 11 f), (hesx, aI g 10 X), (hesy, aI g 10 Y)]) (lv' := [(0, .ref he), (1, .ref ha), (2, vi k)]) rfl rfl ?_
  have hlb : ∀ j : Int, 0 ≤ ltr L len j ∧ ltr L len j ≤ 65535 := fun j => by unfold ltr; split; exact hL j (by omega) (by omega); omega
  obtain ⟨o1, o2, o3, o4, o5, o6, o7, o8, o9, o10, o11, o12⟩ := id hok
  refine r_aload_n C dX6_readItem_0 1 rfl ?_
  refine r_iload_n C dX6_readItem_1 2 rfl ?_
  have lb1 := hlb k
  refine k_Vi C kv_X6_38 (fun sz => c_X8_at l g ha hal L len k (by omega) (by omega) (by omega) sz) dX6_readItem_2 rfl rfl rfl ⟨rfl, rfl⟩ 0 7 rfl rfl rfl [0, 1] rfl rfl (fun _ => rfl) (ws' := fun u_ => [(ha, oB 7 [.ref hal, vi len]), (hal, aC g 200 L), (he, oB 5 [.ref hes, vi td, vi rw]), (hes, oB 6 [vi w, vi h, .ref hesr, .ref hesx, .ref hesy, vi n, vi m, vi c]), (hesr, aI g 11 f), (hesx, aI g 10 X), (hesy, aI g 10 Y)]) (fun _ => rfl) (fun r_2 u_ p_2 => ?_)
  have p_2 : r_2 = ltr L len k := p_2
  refine r_eq (y := (ltr L len k)) p_2 ?_
  refine r_istore_n C (lv' := [(3, vi (ltr L len k)), (0, .ref he), (1, .ref ha), (2, vi k)]) dX6_readItem_5 rfl rfl ?_
  refine r_aload_n C dX6_readItem_6 1 rfl ?_
  refine gf_X6_18 C dX6_readItem_7 2 rfl rfl ?_
  refine r_if_ne C 30 dX6_readItem_10 rfl (by omega) (fun c_1 => ?_) (fun c_1 => ?_)
  · skip
    refine r_iload_n C dX6_readItem_30 0 rfl ?_
    by_cases c_2 : (ltr L len k) = 100
    · refine r_look C 71 (v := 100) dX6_readItem_31 c_2 (by decide) rfl rfl rfl ?_
      refine r_aload_n C dX6_readItem_71 1 rfl ?_
      refine r_aload_n C dX6_readItem_72 2 rfl ?_
      refine r_iload_n C dX6_readItem_73 3 rfl ?_
      refine m_Vi C kv_X6_48 (fun sz => c_X6_readDot l g ha hal L len he hes hesr hesx hesy td rw w h n m c f X Y k (by omega) (by omega) (by omega) hok sz) dX6_readItem_74 rfl rfl rfl ⟨rfl, rfl⟩ 2 5 rfl rfl rfl [true, true, true, true, true, true, true] rfl (fun _ => rfl) (ws' := fun u_ => [(ha, oB 7 [.ref hal, vi len]), (hal, aC g 200 L), (he, oB 5 [.ref hes, vi td, vi rw]), (hes, oB 6 [vi w, vi h, .ref hesr, .ref hesx, .ref hesy, vi u_.1, vi m, vi c]), (hesr, aI g 11 f), (hesx, aI g 10 u_.2.1), (hesy, aI g 10 u_.2.2)]) (fun _ => rfl) (fun r_74 u_ p_74 => ?_)
      obtain ⟨n2_74, X2_74, Y2_74⟩ := u_
      refine r_at (ws' := [(ha, oB 7 [.ref hal, vi len]), (hal, aC g 200 L), (he, oB 5 [.ref hes, vi td, vi rw]), (hes, oB 6 [vi w, vi h, .ref hesr, .ref hesx, .ref hesy, vi n2_74, vi m, vi c]), (hesr, aI g 11 f), (hesx, aI g 10 X2_74), (hesy, aI g 10 Y2_74)]) (lv' := [(3, vi (ltr L len k)), (0, .ref he), (1, .ref ha), (2, vi k)]) rfl rfl ?_
      have p_74 : (r_74 = 4 ∧ cD (ltr L len) k n X Y ∧ n2_74 = n + 1 ∧ X2_74 = zU X n (ltr L len (k + 1) - 102) ∧ Y2_74 = zU Y n (ltr L len (k + 2) - 102)) ∨ (r_74 = 0 ∧ ¬ cD (ltr L len) k n X Y ∧ n2_74 = n ∧ X2_74 = X ∧ Y2_74 = Y) := p_74
      exact e_i C (td, w, h, rw, f, n2_74, X2_74, Y2_74, m, c) dX6_readItem_77 (show (itm (ltr L len) k (td, w, h, rw, f, n, X, Y, m, c) = some (r_74, (td, w, h, rw, f, n2_74, X2_74, Y2_74, m, c)) ∧ 4 ≤ r_74 ∧ r_74 ≤ 13) ∨ (r_74 = 0 ∧ itm (ltr L len) k (td, w, h, rw, f, n, X, Y, m, c) = none ∧ (td, w, h, rw, f, n2_74, X2_74, Y2_74, m, c) = (td, w, h, rw, f, n, X, Y, m, c)) from by
      rcases p_74 with ⟨q1, q2, q3, q4, q5⟩ | ⟨q1, q2, q3, q4, q5⟩
      · left; subst q1 q3 q4 q5; refine ⟨?_, by decide, by decide⟩; rw [itm_eq, if_neg (by omega), if_neg (by omega), if_pos (by omega), pif_t q2]
      · right; subst q1 q3 q4 q5; refine ⟨rfl, ?_, rfl⟩; rw [itm_eq, if_neg (by omega), if_neg (by omega), if_pos (by omega), pif_f q2]) rfl
    by_cases c_3 : (ltr L len k) = 109
    · refine r_look C 78 (v := 109) dX6_readItem_31 c_3 (by decide) rfl rfl rfl ?_
      refine r_aload_n C dX6_readItem_78 1 rfl ?_
      refine r_aload_n C dX6_readItem_79 2 rfl ?_
      refine r_iload_n C dX6_readItem_80 3 rfl ?_
      refine m_Vi C kv_X6_51 (fun sz => c_X6_readMetric l g ha hal L len he hes hesr hesx hesy td rw w h n m c f X Y k (by omega) (by omega) (by omega) hok sz) dX6_readItem_81 rfl rfl rfl ⟨rfl, rfl⟩ 2 5 rfl rfl rfl [true, true, true, true, true, true, true] rfl (fun _ => rfl) (ws' := fun u_ => [(ha, oB 7 [.ref hal, vi len]), (hal, aC g 200 L), (he, oB 5 [.ref hes, vi td, vi rw]), (hes, oB 6 [vi w, vi h, .ref hesr, .ref hesx, .ref hesy, vi n, vi u_.1, vi u_.2]), (hesr, aI g 11 f), (hesx, aI g 10 X), (hesy, aI g 10 Y)]) (fun _ => rfl) (fun r_81 u_ p_81 => ?_)
      obtain ⟨m2_81, c2_81⟩ := u_
      refine r_at (ws' := [(ha, oB 7 [.ref hal, vi len]), (hal, aC g 200 L), (he, oB 5 [.ref hes, vi td, vi rw]), (hes, oB 6 [vi w, vi h, .ref hesr, .ref hesx, .ref hesy, vi n, vi m2_81, vi c2_81]), (hesr, aI g 11 f), (hesx, aI g 10 X), (hesy, aI g 10 Y)]) (lv' := [(3, vi (ltr L len k)), (0, .ref he), (1, .ref ha), (2, vi k)]) rfl rfl ?_
      have p_81 : (r_81 = 5 ∧ cM (ltr L len) k ∧ m2_81 = ltr L len (k + 1) - 48 ∧ c2_81 = 10 * (ltr L len (k + 2) - 48) + (ltr L len (k + 3) - 48)) ∨ (r_81 = 0 ∧ ¬ cM (ltr L len) k ∧ m2_81 = m ∧ c2_81 = c) := p_81
      exact e_i C (td, w, h, rw, f, n, X, Y, m2_81, c2_81) dX6_readItem_84 (show (itm (ltr L len) k (td, w, h, rw, f, n, X, Y, m, c) = some (r_81, (td, w, h, rw, f, n, X, Y, m2_81, c2_81)) ∧ 4 ≤ r_81 ∧ r_81 ≤ 13) ∨ (r_81 = 0 ∧ itm (ltr L len) k (td, w, h, rw, f, n, X, Y, m, c) = none ∧ (td, w, h, rw, f, n, X, Y, m2_81, c2_81) = (td, w, h, rw, f, n, X, Y, m, c)) from by
      rcases p_81 with ⟨q1, q2, q3, q4⟩ | ⟨q1, q2, q3, q4⟩
      · left; subst q1 q3 q4; refine ⟨?_, by decide, by decide⟩; rw [itm_eq, if_neg (by omega), if_neg (by omega), if_neg (by omega), if_pos (by omega), pif_t q2]
      · right; subst q1 q3 q4; refine ⟨rfl, ?_, rfl⟩; rw [itm_eq, if_neg (by omega), if_neg (by omega), if_neg (by omega), if_pos (by omega), pif_f q2]) rfl
    by_cases c_4 : (ltr L len k) = 114
    · refine r_look C 64 (v := 114) dX6_readItem_31 c_4 (by decide) rfl rfl rfl ?_
      refine r_aload_n C dX6_readItem_64 1 rfl ?_
      refine r_aload_n C dX6_readItem_65 2 rfl ?_
      refine r_iload_n C dX6_readItem_66 3 rfl ?_
      refine m_Vi C kv_X6_45 (fun sz => c_X6_readRow l g ha hal L len he hes hesr hesx hesy td rw w h n m c f X Y k (by omega) (by omega) (by omega) hok sz) dX6_readItem_67 rfl rfl rfl ⟨rfl, rfl⟩ 2 5 rfl rfl rfl [true, true, true, true, true, true, true] rfl (fun _ => rfl) (ws' := fun u_ => [(ha, oB 7 [.ref hal, vi len]), (hal, aC g 200 L), (he, oB 5 [.ref hes, vi td, vi u_.2]), (hes, oB 6 [vi w, vi h, .ref hesr, .ref hesx, .ref hesy, vi n, vi m, vi c]), (hesr, aI g 11 u_.1), (hesx, aI g 10 X), (hesy, aI g 10 Y)]) (fun _ => rfl) (fun r_67 u_ p_67 => ?_)
      obtain ⟨f2_67, rw2_67⟩ := u_
      refine r_at (ws' := [(ha, oB 7 [.ref hal, vi len]), (hal, aC g 200 L), (he, oB 5 [.ref hes, vi td, vi rw2_67]), (hes, oB 6 [vi w, vi h, .ref hesr, .ref hesx, .ref hesy, vi n, vi m, vi c]), (hesr, aI g 11 f2_67), (hesx, aI g 10 X), (hesy, aI g 10 Y)]) (lv' := [(3, vi (ltr L len k)), (0, .ref he), (1, .ref ha), (2, vi k)]) rfl rfl ?_
      have p_67 : (r_67 = w + 2 ∧ cR (ltr L len) k w h rw ∧ f2_67 = zU f rw (rowP (isH (ltr L len) k) 0 w) ∧ rw2_67 = rw + 1) ∨ (r_67 = 0 ∧ ¬ cR (ltr L len) k w h rw ∧ f2_67 = f ∧ rw2_67 = rw) := p_67
      exact e_i C (td, w, h, rw2_67, f2_67, n, X, Y, m, c) dX6_readItem_70 (show (itm (ltr L len) k (td, w, h, rw, f, n, X, Y, m, c) = some (r_67, (td, w, h, rw2_67, f2_67, n, X, Y, m, c)) ∧ 4 ≤ r_67 ∧ r_67 ≤ 13) ∨ (r_67 = 0 ∧ itm (ltr L len) k (td, w, h, rw, f, n, X, Y, m, c) = none ∧ (td, w, h, rw2_67, f2_67, n, X, Y, m, c) = (td, w, h, rw, f, n, X, Y, m, c)) from by
      rcases p_67 with ⟨q1, q2, q3, q4⟩ | ⟨q1, q2, q3, q4⟩
      · left; subst q1 q3 q4; refine ⟨?_, by omega, by omega⟩; rw [itm_eq, if_neg (by omega), if_pos (by omega), pif_t q2]
      · right; subst q1 q3 q4; refine ⟨rfl, ?_, rfl⟩; rw [itm_eq, if_neg (by omega), if_pos (by omega), pif_f q2]) rfl
    refine r_lookOut C 85 dX6_readItem_31 (by omega) rfl (by simp [c_2, c_3, c_4]) rfl ?_
    refine r_iconst C dX6_readItem_85 ?_
    exact e_i C (td, w, h, rw, f, n, X, Y, m, c) dX6_readItem_86 (show (itm (ltr L len) k (td, w, h, rw, f, n, X, Y, m, c) = some (0, (td, w, h, rw, f, n, X, Y, m, c)) ∧ 4 ≤ 0 ∧ 0 ≤ 13) ∨ (0 = 0 ∧ itm (ltr L len) k (td, w, h, rw, f, n, X, Y, m, c) = none ∧ (td, w, h, rw, f, n, X, Y, m, c) = (td, w, h, rw, f, n, X, Y, m, c)) from by
      right; refine ⟨rfl, ?_, rfl⟩; rw [itm_eq, if_neg (by omega), if_neg (by omega), if_neg (by omega), if_neg (by omega)]) rfl
  · skip
    refine r_iload_n C dX6_readItem_13 0 rfl ?_
    refine r_bipush C dX6_readItem_14 rfl ?_
    refine r_icmp_ne C 28 dX6_readItem_16 rfl (by omega) (fun c_5 => ?_) (fun c_5 => ?_)
    · skip
      refine r_iconst C dX6_readItem_28 ?_
      exact e_i C (td, w, h, rw, f, n, X, Y, m, c) dX6_readItem_29 (show (itm (ltr L len) k (td, w, h, rw, f, n, X, Y, m, c) = some (0, (td, w, h, rw, f, n, X, Y, m, c)) ∧ 4 ≤ 0 ∧ 0 ≤ 13) ∨ (0 = 0 ∧ itm (ltr L len) k (td, w, h, rw, f, n, X, Y, m, c) = none ∧ (td, w, h, rw, f, n, X, Y, m, c) = (td, w, h, rw, f, n, X, Y, m, c)) from by
      right; refine ⟨rfl, ?_, rfl⟩; rw [itm_eq, if_pos (by omega), if_neg (by omega)]) rfl
    · skip
      refine r_aload_n C dX6_readItem_19 1 rfl ?_
      refine r_aload_n C dX6_readItem_20 2 rfl ?_
      refine r_iload_n C dX6_readItem_21 3 rfl ?_
      refine m_Vi C kv_X6_42 (fun sz => c_X6_readGrid l g ha hal L len he hes hesr hesx hesy td rw w h n m c f X Y k (by omega) (by omega) (by omega) hok sz) dX6_readItem_22 rfl rfl rfl ⟨rfl, rfl⟩ 2 5 rfl rfl rfl [true, true, true, true, true, true, true] rfl (fun _ => rfl) (ws' := fun u_ => [(ha, oB 7 [.ref hal, vi len]), (hal, aC g 200 L), (he, oB 5 [.ref hes, vi u_.2.2, vi rw]), (hes, oB 6 [vi u_.1, vi u_.2.1, .ref hesr, .ref hesx, .ref hesy, vi n, vi m, vi c]), (hesr, aI g 11 f), (hesx, aI g 10 X), (hesy, aI g 10 Y)]) (fun _ => rfl) (fun r_22 u_ p_22 => ?_)
      obtain ⟨w2_22, h2_22, td2_22⟩ := u_
      refine r_at (ws' := [(ha, oB 7 [.ref hal, vi len]), (hal, aC g 200 L), (he, oB 5 [.ref hes, vi td2_22, vi rw]), (hes, oB 6 [vi w2_22, vi h2_22, .ref hesr, .ref hesx, .ref hesy, vi n, vi m, vi c]), (hesr, aI g 11 f), (hesx, aI g 10 X), (hesy, aI g 10 Y)]) (lv' := [(3, vi (ltr L len k)), (0, .ref he), (1, .ref ha), (2, vi k)]) rfl rfl ?_
      have p_22 : (r_22 = 4 ∧ cG (ltr L len) k ∧ w2_22 = sdO (ltr L len (k + 1)) ∧ h2_22 = sdO (ltr L len (k + 2)) ∧ td2_22 = 1) ∨ (r_22 = 0 ∧ ¬ cG (ltr L len) k ∧ w2_22 = w ∧ h2_22 = h ∧ td2_22 = td) := p_22
      refine r_goto C 29 dX6_readItem_25 rfl ?_
      exact e_i C (td2_22, w2_22, h2_22, rw, f, n, X, Y, m, c) dX6_readItem_29 (show (itm (ltr L len) k (td, w, h, rw, f, n, X, Y, m, c) = some (r_22, (td2_22, w2_22, h2_22, rw, f, n, X, Y, m, c)) ∧ 4 ≤ r_22 ∧ r_22 ≤ 13) ∨ (r_22 = 0 ∧ itm (ltr L len) k (td, w, h, rw, f, n, X, Y, m, c) = none ∧ (td2_22, w2_22, h2_22, rw, f, n, X, Y, m, c) = (td, w, h, rw, f, n, X, Y, m, c)) from by
      rcases p_22 with ⟨q1, q2, q3, q4, q5⟩ | ⟨q1, q2, q3, q4, q5⟩
      · left; subst q1 q3 q4 q5; refine ⟨?_, by decide, by decide⟩; rw [itm_eq, if_pos (by omega), if_pos (by omega), pif_t q2]
      · right; subst q1 q3 q4 q5; refine ⟨rfl, ?_, rfl⟩; rw [itm_eq, if_pos (by omega), if_pos (by omega), pif_f q2]) rfl
set_option maxHeartbeats 1000000 in
set_option maxRecDepth 100000 in
theorem c_X6_readAll (l : Launch) (g : Gx) (ha : Nat) (hal : Nat) (L : Int → Int) (len : Int) (he : Nat) (hes : Nat) (hesr : Nat) (hesx : Nat) (hesy : Nat) (td : Int) (rw : Int) (w : Int) (h : Int) (n : Int) (m : Int) (c : Int) (f : Int → Int) (X : Int → Int) (Y : Int → Int) (hlen : 0 ≤ len ∧ len ≤ 200) (hL : ∀ k : Int, 0 ≤ k → k < 200 → 0 ≤ L k ∧ L k ≤ 65535) (hX : ∀ d : Int, 0 ≤ d → d < 10 → -5 ≤ X d ∧ X d ≤ 5) (hY : ∀ d : Int, 0 ≤ d → d < 10 → -5 ≤ Y d ∧ Y d ≤ 5) (sz : Nat) : Met l yX6_readAll (.code yX6_readAll cX6_readAll 5 (some .int) :: wsL_law) { frames := 3, cells := 0, slots := 0, locals := 70 } (PR g [.ref he, .ref ha] [(ha, oB 7 [.ref hal, vi len]), (hal, aC g 200 L), (he, oB 5 [.ref hes, vi td, vi rw]), (hes, oB 6 [vi w, vi h, .ref hesr, .ref hesx, .ref hesy, vi n, vi m, vi c]), (hesr, aI g 11 f), (hesx, aI g 10 X), (hesy, aI g 10 Y)] sz) (PI (S := Int × Int × Int × Int × (Int → Int) × Int × (Int → Int) × (Int → Int) × Int × Int) g (fun r u_ => (r, (u_.1, u_.2.1, u_.2.2.1, u_.2.2.2.1, u_.2.2.2.2.1, u_.2.2.2.2.2.1, u_.2.2.2.2.2.2.1, u_.2.2.2.2.2.2.2.1, u_.2.2.2.2.2.2.2.2.1, u_.2.2.2.2.2.2.2.2.2)) = rdA (ltr L len) len X Y) (fun u_ => [(ha, oB 7 [.ref hal, vi len]), (hal, aC g 200 L), (he, oB 5 [.ref hes, vi u_.1, vi u_.2.2.2.1]), (hes, oB 6 [vi u_.2.1, vi u_.2.2.1, .ref hesr, .ref hesx, .ref hesy, vi u_.2.2.2.2.2.1, vi u_.2.2.2.2.2.2.2.2.1, vi u_.2.2.2.2.2.2.2.2.2]), (hesr, aI g 11 u_.2.2.2.2.1), (hesx, aI g 10 u_.2.2.2.2.2.2.1), (hesy, aI g 10 u_.2.2.2.2.2.2.2.1)]) [(ha, oB 7 [.ref hal, vi len]), (hal, aC g 200 L), (he, oB 5 [.ref hes, vi td, vi rw]), (hes, oB 6 [vi w, vi h, .ref hesr, .ref hesx, .ref hesy, vi n, vi m, vi c]), (hesr, aI g 11 f), (hesx, aI g 10 X), (hesy, aI g 10 Y)] sz) 0 0 (va_A [(ha, oB 7 [.ref hal, vi len]), (hal, aC g 200 L), (he, oB 5 [.ref hes, vi td, vi rw]), (hes, oB 6 [vi w, vi h, .ref hesr, .ref hesx, .ref hesy, vi n, vi m, vi c]), (hesr, aI g 11 f), (hesx, aI g 10 X), (hesy, aI g 10 Y)] sz) := by
  refine meet (own := RX6) rfl (plainFor_of_name (by decide +kernel)) rfl (fun p_ e_ s_ m_ args_ below_ meth_ c_ C hnm => ?_)
  refine r_at (ws' := [(ha, oB 7 [.ref hal, vi len]), (hal, aC g 200 L), (he, oB 5 [.ref hes, vi td, vi rw]), (hes, oB 6 [vi w, vi h, .ref hesr, .ref hesx, .ref hesy, vi n, vi m, vi c]), (hesr, aI g 11 f), (hesx, aI g 10 X), (hesy, aI g 10 Y)]) (lv' := [(0, .ref he), (1, .ref ha)]) rfl rfl ?_
  refine r_aload_n C dX6_readAll_0 0 rfl ?_
  refine gf_X6_12 C dX6_readAll_1 2 rfl rfl ?_
  refine m_Vv C kv_X6_26 (fun sz => c_X7_clear l g hes hesr hesx hesy w h n m c f X Y sz) dX6_readAll_4 rfl rfl rfl ⟨rfl, rfl⟩ 3 6 rfl rfl rfl [false, false, false, true, true, true, true] rfl (fun _ => rfl) (ws' := fun u_ => [(ha, oB 7 [.ref hal, vi len]), (hal, aC g 200 L), (he, oB 5 [.ref hes, vi td, vi rw]), (hes, oB 6 [vi 4, vi 4, .ref hesr, .ref hesx, .ref hesy, vi 0, vi 0, vi 99]), (hesr, aI g 11 (fun _ => 0)), (hesx, aI g 10 X), (hesy, aI g 10 Y)]) (fun _ => rfl) (fun u_ p_4 => ?_)
  refine r_aload_n C dX6_readAll_7 0 rfl ?_
  refine r_iconst C dX6_readAll_8 ?_
  refine pf_X6_18 C (ws' := [(ha, oB 7 [.ref hal, vi len]), (hal, aC g 200 L), (he, oB 5 [.ref hes, vi 0, vi rw]), (hes, oB 6 [vi 4, vi 4, .ref hesr, .ref hesx, .ref hesy, vi 0, vi 0, vi 99]), (hesr, aI g 11 (fun _ => 0)), (hesx, aI g 10 X), (hesy, aI g 10 Y)]) dX6_readAll_9 2 rfl (Nat.le_of_ble_eq_true rfl) (nz_n (by omega)) (nz_f (by omega)) rfl ?_
  refine r_aload_n C dX6_readAll_12 0 rfl ?_
  refine r_iconst C dX6_readAll_13 ?_
  refine pf_X6_22 C (ws' := [(ha, oB 7 [.ref hal, vi len]), (hal, aC g 200 L), (he, oB 5 [.ref hes, vi 0, vi 0]), (hes, oB 6 [vi 4, vi 4, .ref hesr, .ref hesx, .ref hesy, vi 0, vi 0, vi 99]), (hesr, aI g 11 (fun _ => 0)), (hesx, aI g 10 X), (hesy, aI g 10 Y)]) dX6_readAll_14 2 rfl (Nat.le_of_ble_eq_true rfl) rfl ?_
  refine r_iconst C dX6_readAll_17 ?_
  refine r_istore_n C (lv' := [(2, vi 0), (0, .ref he), (1, .ref ha)]) dX6_readAll_18 rfl rfl ?_
  refine r_iconst C dX6_readAll_19 ?_
  refine r_istore_n C (lv' := [(3, vi 0), (2, vi 0), (0, .ref he), (1, .ref ha)]) dX6_readAll_20 rfl rfl ?_
  refine r_lv (lv' := [(0, .ref he), (1, .ref ha), (2, vi 0), (3, vi 0)]) [2, 3, 1, 0] rfl ?_
  refine r_loop (σ := Int × Int × Int × Int × Int × Int × (Int → Int) × Int × (Int → Int) × (Int → Int) × Int × Int) (fun z_ => (0 ≤ z_.1 ∧ z_.1 ≤ 200 ∧ 0 ≤ z_.2.1 ∧ z_.2.1 ≤ 213) ∧ (PSok (z_.2.2.1, z_.2.2.2.1, z_.2.2.2.2.1, z_.2.2.2.2.2.1, z_.2.2.2.2.2.2.1, z_.2.2.2.2.2.2.2.1, z_.2.2.2.2.2.2.2.2.1, z_.2.2.2.2.2.2.2.2.2.1, z_.2.2.2.2.2.2.2.2.2.2.1, z_.2.2.2.2.2.2.2.2.2.2.2)) ∧ (rdA (ltr L len) len X Y = prs (ltr L len) len (Int.toNat (200 - z_.1)) (z_.2.2.1, z_.2.2.2.1, z_.2.2.2.2.1, z_.2.2.2.2.2.1, z_.2.2.2.2.2.2.1, z_.2.2.2.2.2.2.2.1, z_.2.2.2.2.2.2.2.2.1, z_.2.2.2.2.2.2.2.2.2.1, z_.2.2.2.2.2.2.2.2.2.2.1, z_.2.2.2.2.2.2.2.2.2.2.2) z_.2.1)) (fun z_ => 200 - z_.1) (fun z_ => [(ha, oB 7 [.ref hal, vi len]), (hal, aC g 200 L), (he, oB 5 [.ref hes, vi z_.2.2.1, vi z_.2.2.2.2.2.1]), (hes, oB 6 [vi z_.2.2.2.1, vi z_.2.2.2.2.1, .ref hesr, .ref hesx, .ref hesy, vi z_.2.2.2.2.2.2.2.1, vi z_.2.2.2.2.2.2.2.2.2.2.1, vi z_.2.2.2.2.2.2.2.2.2.2.2]), (hesr, aI g 11 z_.2.2.2.2.2.2.1), (hesx, aI g 10 z_.2.2.2.2.2.2.2.2.1), (hesy, aI g 10 z_.2.2.2.2.2.2.2.2.2.1)]) (fun z_ => [(0, .ref he), (1, .ref ha), (2, vi z_.2.1), (3, vi z_.1)]) (fun z_ hz => ?_) (fun z_ hz ih_21 => ?_) (((0, 0, 0, 4, 4, 0, fun _ => 0, 0, X, Y, 0, 99) : Int × Int × Int × Int × Int × Int × (Int → Int) × Int × (Int → Int) × (Int → Int) × Int × Int)) ?_
  · obtain ⟨i, k, td3, w3, h3, rw3, f3, n3, X3, Y3, m3, c3⟩ := z_
    obtain ⟨hi, ho, hp⟩ := hz
    have hi : 0 ≤ i ∧ i ≤ 200 ∧ 0 ≤ k ∧ k ≤ 213 := hi
    have ho : PSok (td3, w3, h3, rw3, f3, n3, X3, Y3, m3, c3) := ho
    have hp : rdA (ltr L len) len X Y = prs (ltr L len) len (Int.toNat (200 - i)) (td3, w3, h3, rw3, f3, n3, X3, Y3, m3, c3) k := hp
    show (0 : Int) ≤ 200 - i
    omega
  rotate_left
  · show (0 ≤ 0 ∧ 0 ≤ 200 ∧ 0 ≤ 0 ∧ 0 ≤ 213) ∧ (PSok (0, 4, 4, 0, (fun _ => 0), 0, X, Y, 0, 99)) ∧ (rdA (ltr L len) len X Y = prs (ltr L len) len (Int.toNat (200 - 0)) (0, 4, 4, 0, (fun _ => 0), 0, X, Y, 0, 99) 0)
    exact ⟨(by decide), (PSok_0 hX hY), (rfl)⟩
  obtain ⟨i, k, td3, w3, h3, rw3, f3, n3, X3, Y3, m3, c3⟩ := z_
  obtain ⟨hi, ho, hp⟩ := hz
  have hi : 0 ≤ i ∧ i ≤ 200 ∧ 0 ≤ k ∧ k ≤ 213 := hi
  have ho : PSok (td3, w3, h3, rw3, f3, n3, X3, Y3, m3, c3) := ho
  have hp : rdA (ltr L len) len X Y = prs (ltr L len) len (Int.toNat (200 - i)) (td3, w3, h3, rw3, f3, n3, X3, Y3, m3, c3) k := hp
  refine r_at (ws' := [(ha, oB 7 [.ref hal, vi len]), (hal, aC g 200 L), (he, oB 5 [.ref hes, vi td3, vi rw3]), (hes, oB 6 [vi w3, vi h3, .ref hesr, .ref hesx, .ref hesy, vi n3, vi m3, vi c3]), (hesr, aI g 11 f3), (hesx, aI g 10 X3), (hesy, aI g 10 Y3)]) (lv' := [(0, .ref he), (1, .ref ha), (2, vi k), (3, vi i)]) rfl rfl ?_
  refine r_iload_n C dX6_readAll_21 3 rfl ?_
  refine r_sipush C dX6_readAll_22 rfl ?_
  refine r_icmp_ge C 62 dX6_readAll_25 rfl (by omega) (fun c_1 => ?_) (fun c_1 => ?_)
  · skip
    refine r_bipush C dX6_readAll_62 rfl ?_
    exact e_i C (td3, w3, h3, rw3, f3, n3, X3, Y3, m3, c3) dX6_readAll_64 (show ((-4), (td3, w3, h3, rw3, f3, n3, X3, Y3, m3, c3)) = rdA (ltr L len) len X Y from by rw [hp]; first | rw [prs_end _ _ (by omega)] | (rw [show Int.toNat (200 - i) = 0 by omega]; rfl)) rfl
  · skip
    refine r_iload_n C dX6_readAll_28 2 rfl ?_
    refine r_aload_n C dX6_readAll_29 1 rfl ?_
    refine gf_X6_29 C dX6_readAll_30 0 rfl rfl ?_
    refine r_icmp_ge C 62 dX6_readAll_33 rfl (by omega) (fun c_2 => ?_) (fun c_2 => ?_)
    · skip
      refine r_bipush C dX6_readAll_62 rfl ?_
      exact e_i C (td3, w3, h3, rw3, f3, n3, X3, Y3, m3, c3) dX6_readAll_64 (show ((-4), (td3, w3, h3, rw3, f3, n3, X3, Y3, m3, c3)) = rdA (ltr L len) len X Y from by rw [hp]; first | rw [prs_end _ _ (by omega)] | (rw [show Int.toNat (200 - i) = 0 by omega]; rfl)) rfl
    · skip
      have hq : Int.toNat (200 - i) = (Int.toNat (200 - i) - 1) + 1 := by omega
      refine r_aload_n C dX6_readAll_36 0 rfl ?_
      refine r_aload_n C dX6_readAll_37 1 rfl ?_
      refine r_iload_n C dX6_readAll_38 2 rfl ?_
      refine m_Vi C kv_X6_34 (fun sz => c_X6_readItem l g ha hal L len he hes hesr hesx hesy td3 rw3 w3 h3 n3 m3 c3 f3 X3 Y3 k (by omega) (by omega) (by omega) ho sz) dX6_readAll_39 rfl rfl rfl ⟨rfl, rfl⟩ 2 5 rfl rfl rfl [true, true, true, true, true, true, true] rfl (fun _ => rfl) (ws' := fun u_ => [(ha, oB 7 [.ref hal, vi len]), (hal, aC g 200 L), (he, oB 5 [.ref hes, vi u_.1, vi u_.2.2.2.1]), (hes, oB 6 [vi u_.2.1, vi u_.2.2.1, .ref hesr, .ref hesx, .ref hesy, vi u_.2.2.2.2.2.1, vi u_.2.2.2.2.2.2.2.2.1, vi u_.2.2.2.2.2.2.2.2.2]), (hesr, aI g 11 u_.2.2.2.2.1), (hesx, aI g 10 u_.2.2.2.2.2.2.1), (hesy, aI g 10 u_.2.2.2.2.2.2.2.1)]) (fun _ => rfl) (fun r_39 u_ p_39 => ?_)
      obtain ⟨td2_39, w2_39, h2_39, rw2_39, f2_39, n2_39, X2_39, Y2_39, m2_39, c2_39⟩ := u_
      refine r_at (ws' := [(ha, oB 7 [.ref hal, vi len]), (hal, aC g 200 L), (he, oB 5 [.ref hes, vi td2_39, vi rw2_39]), (hes, oB 6 [vi w2_39, vi h2_39, .ref hesr, .ref hesx, .ref hesy, vi n2_39, vi m2_39, vi c2_39]), (hesr, aI g 11 f2_39), (hesx, aI g 10 X2_39), (hesy, aI g 10 Y2_39)]) (lv' := [(0, .ref he), (1, .ref ha), (2, vi k), (3, vi i)]) rfl rfl ?_
      have p_39 : (itm (ltr L len) k (td3, w3, h3, rw3, f3, n3, X3, Y3, m3, c3) = some (r_39, (td2_39, w2_39, h2_39, rw2_39, f2_39, n2_39, X2_39, Y2_39, m2_39, c2_39)) ∧ 4 ≤ r_39 ∧ r_39 ≤ 13) ∨ (r_39 = 0 ∧ itm (ltr L len) k (td3, w3, h3, rw3, f3, n3, X3, Y3, m3, c3) = none ∧ (td2_39, w2_39, h2_39, rw2_39, f2_39, n2_39, X2_39, Y2_39, m2_39, c2_39) = (td3, w3, h3, rw3, f3, n3, X3, Y3, m3, c3)) := p_39
      refine r_istore C (lv' := [(4, vi r_39), (0, .ref he), (1, .ref ha), (2, vi k), (3, vi i)]) dX6_readAll_42 rfl rfl ?_
      refine r_iload C dX6_readAll_44 0 rfl ?_
      refine r_if_ne C 51 dX6_readAll_46 rfl (by omega) (fun c_3 => ?_) (fun c_3 => ?_)
      · skip
        refine r_iload_n C dX6_readAll_51 3 rfl ?_
        refine r_iload C dX6_readAll_52 0 rfl ?_
        refine r_iadd C dX6_readAll_54 ?_
        refine r_istore_n C (lv' := [(2, vi (k + r_39)), (4, vi r_39), (0, .ref he), (1, .ref ha), (3, vi i)]) dX6_readAll_55 rfl rfl ?_
        refine r_iinc C (lv' := [(3, vi (i + 1)), (2, vi (k + r_39)), (4, vi r_39), (0, .ref he), (1, .ref ha)]) dX6_readAll_56 4 rfl rfl rfl ?_
        refine r_goto C 21 dX6_readAll_59 rfl ?_
        refine r_lv (lv' := [(0, .ref he), (1, .ref ha), (2, vi (k + r_39)), (3, vi (i + 1))]) [3, 4, 1, 0] rfl ?_
        exact ih_21 (i + 1, k + r_39, td2_39, w2_39, h2_39, rw2_39, f2_39, n2_39, X2_39, Y2_39, m2_39, c2_39) (show (0 ≤ (i + 1) ∧ (i + 1) ≤ 200 ∧ 0 ≤ (k + r_39) ∧ (k + r_39) ≤ 213) ∧ (PSok (td2_39, w2_39, h2_39, rw2_39, f2_39, n2_39, X2_39, Y2_39, m2_39, c2_39)) ∧ (rdA (ltr L len) len X Y = prs (ltr L len) len (Int.toNat (200 - (i + 1))) (td2_39, w2_39, h2_39, rw2_39, f2_39, n2_39, X2_39, Y2_39, m2_39, c2_39) (k + r_39)) from ⟨(by rcases p_39 with q | q <;> omega), ((by rcases p_39 with q | q; exact (itm_ok ho q.1).1; omega)), ((by rcases p_39 with q | q; rw [hp, hq, prs_go _ (by omega) q.1]; rw [show Int.toNat (200 - (i + 1)) = Int.toNat (200 - i) - 1 by omega]; omega))⟩) (show 200 - (i + 1) < 200 - i from by omega)
      · skip
        refine r_iload_n C dX6_readAll_49 3 rfl ?_
        exact e_i C (td2_39, w2_39, h2_39, rw2_39, f2_39, n2_39, X2_39, Y2_39, m2_39, c2_39) dX6_readAll_50 (show (k, (td2_39, w2_39, h2_39, rw2_39, f2_39, n2_39, X2_39, Y2_39, m2_39, c2_39)) = rdA (ltr L len) len X Y from by rcases p_39 with q | q; omega; rw [hp, hq, prs_no _ (by omega) q.2.1, q.2.2]) rfl
