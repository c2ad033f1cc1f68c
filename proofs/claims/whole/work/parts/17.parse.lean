/-! ===== a text's items, one behind the other ===== -/
abbrev PSt : Type := Int × Int × Int × Int × (Int → Int) × Int × (Int → Int) × (Int → Int) × Int × Int
def sdO (v : Int) : Int := if v = 97 ∨ v = 98 then v - 97 + 10 else if v - 48 ≤ 9 then v - 48 else -1
def isH (lt : Int → Int) (k : Int) : Int → Int := fun u => if lt (k + 1 + u) = 35 then 1 else 0
theorem isH_01 (lt : Int → Int) (k u : Int) : isH lt k u = 0 ∨ isH lt k u = 1 := by
  unfold isH
  split
  · exact Or.inr rfl
  · exact Or.inl rfl
def cG (lt : Int → Int) (k : Int) : Prop := (4 ≤ sdO (lt (k + 1)) ∧ sdO (lt (k + 1)) ≤ 11) ∧ (4 ≤ sdO (lt (k + 2)) ∧ sdO (lt (k + 2)) ≤ 11) ∧ lt (k + 3) = 59
def cR (lt : Int → Int) (k w h rw : Int) : Prop := rw < h ∧ (∀ u : Int, 0 ≤ u → u < w → lt (k + 1 + u) = 35 ∨ lt (k + 1 + u) = 46) ∧ lt (k + 1 + w) = 59
def cD (lt : Int → Int) (k n : Int) (X Y : Int → Int) : Prop := (-5 ≤ lt (k + 1) - 102 ∧ lt (k + 1) - 102 ≤ 5) ∧ (-5 ≤ lt (k + 2) - 102 ∧ lt (k + 2) - 102 ≤ 5) ∧ lt (k + 3) = 59 ∧ n < 10 ∧ ∀ d : Int, 0 ≤ d → d < n → ¬ (X d = lt (k + 1) - 102 ∧ Y d = lt (k + 2) - 102)
def cM (lt : Int → Int) (k : Int) : Prop := (0 ≤ lt (k + 1) - 48 ∧ lt (k + 1) - 48 ≤ 2) ∧ (0 ≤ lt (k + 2) - 48 ∧ lt (k + 2) - 48 ≤ 9) ∧ (0 ≤ lt (k + 3) - 48 ∧ lt (k + 3) - 48 ≤ 9) ∧ ¬ lt (k + 2) - 48 + (lt (k + 3) - 48) = 0 ∧ lt (k + 4) = 59
noncomputable def pif {α : Type} (p : Prop) (a b : α) : α := @ite α p (Classical.propDecidable p) a b
theorem pif_t {α : Type} {p : Prop} {a b : α} (h : p) : pif p a b = a := @if_pos p (Classical.propDecidable p) h α a b
theorem pif_f {α : Type} {p : Prop} {a b : α} (h : ¬ p) : pif p a b = b := @if_neg p (Classical.propDecidable p) h α a b
/-- an item at a place: how many letters it has, what is told then -/
noncomputable def itm (lt : Int → Int) (k : Int) : PSt → Option (Int × PSt)
  | (td, w, h, rw, f, n, X, Y, m, c) =>
    if td = 0 then (if lt k = 103 then pif (cG lt k) (some (4, (1, sdO (lt (k + 1)), sdO (lt (k + 2)), rw, f, n, X, Y, m, c))) none else none)
    else if lt k = 114 then pif (cR lt k w h rw) (some (w + 2, (td, w, h, rw + 1, zU f rw (rowP (isH lt k) 0 w), n, X, Y, m, c))) none
    else if lt k = 100 then pif (cD lt k n X Y) (some (4, (td, w, h, rw, f, n + 1, zU X n (lt (k + 1) - 102), zU Y n (lt (k + 2) - 102), m, c))) none
    else if lt k = 109 then pif (cM lt k) (some (5, (td, w, h, rw, f, n, X, Y, lt (k + 1) - 48, 10 * (lt (k + 2) - 48) + (lt (k + 3) - 48)))) none
    else none
theorem itm_eq (lt : Int → Int) (k td w h rw : Int) (f : Int → Int) (n : Int) (X Y : Int → Int) (m c : Int) : itm lt k (td, w, h, rw, f, n, X, Y, m, c) =
    (if td = 0 then (if lt k = 103 then pif (cG lt k) (some (4, (1, sdO (lt (k + 1)), sdO (lt (k + 2)), rw, f, n, X, Y, m, c))) none else none)
    else if lt k = 114 then pif (cR lt k w h rw) (some (w + 2, (td, w, h, rw + 1, zU f rw (rowP (isH lt k) 0 w), n, X, Y, m, c))) none
    else if lt k = 100 then pif (cD lt k n X Y) (some (4, (td, w, h, rw, f, n + 1, zU X n (lt (k + 1) - 102), zU Y n (lt (k + 2) - 102), m, c))) none
    else if lt k = 109 then pif (cM lt k) (some (5, (td, w, h, rw, f, n, X, Y, lt (k + 1) - 48, 10 * (lt (k + 2) - 48) + (lt (k + 3) - 48)))) none
    else none) := rfl
noncomputable def prs (lt : Int → Int) (len : Int) : Nat → PSt → Int → Int × PSt
  | 0, S, _ => (-4, S)
  | q + 1, S, k => if k < len then (match itm lt k S with
      | none => (k, S)
      | some z => prs lt len q z.2 (k + z.1)) else (-4, S)
theorem prs_end {lt : Int → Int} {len : Int} (q : Nat) (S : PSt) {k : Int} (h : len ≤ k) : prs lt len q S k = (-4, S) := by
  cases q with
  | zero => rfl
  | succ q => unfold prs; rw [if_neg (by omega)]
theorem prs_no {lt : Int → Int} {len : Int} (q : Nat) {S : PSt} {k : Int} (h : k < len) (hi : itm lt k S = none) : prs lt len (q + 1) S k = (k, S) := by
  unfold prs
  rw [if_pos h, hi]
theorem prs_go {lt : Int → Int} {len : Int} (q : Nat) {S S' : PSt} {k z : Int} (h : k < len) (hi : itm lt k S = some (z, S')) : prs lt len (q + 1) S k = prs lt len q S' (k + z) := by
  rw [prs, if_pos h, hi]
/-- what is told is as it may be -/
def PSok : PSt → Prop
  | (td, w, h, rw, f, n, X, Y, m, c) => (td = 0 ∨ td = 1) ∧ (4 ≤ w ∧ w ≤ 11) ∧ (4 ≤ h ∧ h ≤ 11) ∧ (0 ≤ rw ∧ rw ≤ h) ∧ (∀ y : Int, 0 ≤ y → y < 11 → 0 ≤ f y ∧ f y ≤ 2047) ∧ (∀ y x : Int, 0 ≤ y → y < 11 → 0 ≤ x → x < 11 → (w ≤ x ∨ rw ≤ y) → tb (f y) x = 0) ∧ (0 ≤ n ∧ n ≤ 10) ∧ (∀ d : Int, 0 ≤ d → d < 10 → -5 ≤ X d ∧ X d ≤ 5) ∧ (∀ d : Int, 0 ≤ d → d < 10 → -5 ≤ Y d ∧ Y d ≤ 5) ∧ (0 ≤ m ∧ m ≤ 2) ∧ (1 ≤ c ∧ c ≤ 99) ∧ (td = 0 → rw = 0 ∧ n = 0)
theorem zU_bd {X : Int → Int} {i v lo hi n : Int} (h : ∀ d : Int, 0 ≤ d → d < n → lo ≤ X d ∧ X d ≤ hi) (hv : lo ≤ v ∧ v ≤ hi) : ∀ d : Int, 0 ≤ d → d < n → lo ≤ zU X i v d ∧ zU X i v d ≤ hi := by
  intro d a b
  by_cases e : d = i
  · rw [e, zU_eq]; exact hv
  · rw [zU_ne _ _ e]; exact h d a b
theorem rowP0_b (lt : Int → Int) (k : Int) {w : Int} (hw : 0 ≤ w ∧ w ≤ 11) : 0 ≤ rowP (isH lt k) 0 w ∧ rowP (isH lt k) 0 w ≤ 2047 := by
  obtain ⟨n, rfl⟩ := Int.eq_ofNat_of_zero_le hw.1
  have h := rowP_b (isH_01 lt k) 0 n
  have h2 : (2 : Int) ^ n ≤ 2 ^ 11 := by
    have : (2 : Nat) ^ n ≤ 2 ^ 11 := Nat.pow_le_pow_right (by decide) (by omega)
    exact_mod_cast this
  rw [show (2 : Int) ^ 11 = 2048 from rfl] at h2
  omega
theorem tb_lt {v : Int} {n x : Nat} (h0 : 0 ≤ v) (h1 : v < 2 ^ n) (hx : n ≤ x) : tb v x = 0 := by
  unfold tb
  rw [Int.toNat_natCast]
  have h2 : (2 : Int) ^ n ≤ 2 ^ x := by
    have : (2 : Nat) ^ n ≤ 2 ^ x := Nat.pow_le_pow_right (by decide) hx
    exact_mod_cast this
  rw [Int.ediv_eq_zero_of_lt h0 (by omega)]
  rfl
theorem rowP0_tb (lt : Int → Int) (k : Int) {w x : Int} (hw : 0 ≤ w ∧ w ≤ 11) (hx : 0 ≤ x) : tb (rowP (isH lt k) 0 w) x = if x < w then isH lt k x else 0 := by
  obtain ⟨n, rfl⟩ := Int.eq_ofNat_of_zero_le hw.1
  obtain ⟨u, rfl⟩ := Int.eq_ofNat_of_zero_le hx
  split
  · have := rowP_tb (isH_01 lt k) 0 (u := u) n (by omega)
    rw [this, Int.mul_zero, Int.zero_add]
  · have h := rowP_b (isH_01 lt k) 0 n
    exact tb_lt h.1 h.2 (by omega)
theorem itm_ok {lt : Int → Int} {k z : Int} {S S' : PSt} (H : PSok S) (hi : itm lt k S = some (z, S')) : PSok S' ∧ 4 ≤ z := by
  obtain ⟨td, w, h, rw, f, n, X, Y, m, c⟩ := S
  obtain ⟨h1, h2, h3, h4, h5, h6, h7, h8, h9, h10, h11, h12⟩ := H
  rw [itm_eq] at hi
  by_cases e0 : td = 0
  · rw [if_pos e0] at hi
    by_cases e1 : lt k = 103
    · rw [if_pos e1] at hi
      by_cases e2 : cG lt k
      · rw [pif_t e2] at hi
        cases hi
        obtain ⟨g1, g2, g3⟩ := e2
        have := h12 e0
        refine ⟨⟨Or.inr rfl, g1, g2, by omega, h5, fun y x a b c d e => h6 y x a b c d (by omega), h7, h8, h9, h10, h11, fun z => by omega⟩, by decide⟩
      · rw [pif_f e2] at hi; cases hi
    · rw [if_neg e1] at hi; cases hi
  · rw [if_neg e0] at hi
    by_cases e1 : lt k = 114
    · rw [if_pos e1] at hi
      by_cases e2 : cR lt k w h rw
      · rw [pif_t e2] at hi
        cases hi
        obtain ⟨g1, g2, g3⟩ := e2
        refine ⟨⟨h1, h2, h3, by omega, fun y a b => ?_, fun y x a b c' d e => ?_, h7, h8, h9, h10, h11, fun z => absurd z e0⟩, by omega⟩
        · by_cases e : y = rw
          · rw [e, zU_eq]; exact rowP0_b lt k (by omega)
          · rw [zU_ne _ _ e]; exact h5 y a b
        · by_cases e3 : y = rw
          · rw [e3, zU_eq, rowP0_tb lt k (by omega) c', if_neg (by omega)]
          · rw [zU_ne _ _ e3]; exact h6 y x a b c' d (by omega)
      · rw [pif_f e2] at hi; cases hi
    · rw [if_neg e1] at hi
      by_cases e3 : lt k = 100
      · rw [if_pos e3] at hi
        by_cases e2 : cD lt k n X Y
        · rw [pif_t e2] at hi
          cases hi
          obtain ⟨g1, g2, g3, g4, g5⟩ := e2
          exact ⟨⟨h1, h2, h3, h4, h5, h6, by omega, zU_bd h8 g1, zU_bd h9 g2, h10, h11, fun z => absurd z e0⟩, by decide⟩
        · rw [pif_f e2] at hi; cases hi
      · rw [if_neg e3] at hi
        by_cases e4 : lt k = 109
        · rw [if_pos e4] at hi
          by_cases e2 : cM lt k
          · rw [pif_t e2] at hi
            cases hi
            obtain ⟨g1, g2, g3, g4, g5⟩ := e2
            exact ⟨⟨h1, h2, h3, h4, h5, h6, h7, h8, h9, by omega, by omega, fun z => absurd z e0⟩, by decide⟩
          · rw [pif_f e2] at hi; cases hi
        · rw [if_neg e4] at hi; cases hi
theorem prs_ok {lt : Int → Int} {len : Int} : ∀ (q : Nat) (S : PSt) (k : Int), PSok S → PSok (prs lt len q S k).2 := by
  intro q
  induction q with
  | zero => intro S k H; exact H
  | succ q ih =>
    intro S k H
    by_cases e : k < len
    · cases hi : itm lt k S with
      | none => rw [prs_no q e hi]; exact H
      | some z =>
        rw [prs_go q (S' := z.2) (z := z.1) e hi]
        exact ih _ _ (itm_ok H hi).1
    · rw [prs_end _ _ (by omega)]; exact H
/-- a text is read from its start on -/
noncomputable def rdA (lt : Int → Int) (len : Int) (X Y : Int → Int) : Int × PSt := prs lt len 200 (0, 4, 4, 0, fun _ => 0, 0, X, Y, 0, 99) 0
theorem PSok_0 {X Y : Int → Int} (hX : ∀ d : Int, 0 ≤ d → d < 10 → -5 ≤ X d ∧ X d ≤ 5) (hY : ∀ d : Int, 0 ≤ d → d < 10 → -5 ≤ Y d ∧ Y d ≤ 5) : PSok (0, 4, 4, 0, fun _ => 0, 0, X, Y, 0, 99) := by
  refine ⟨Or.inl rfl, by decide, by decide, by decide, fun y a b => ⟨Int.le_refl 0, by show (0 : Int) ≤ 2047; decide⟩, fun y x a b c d e => ?_, by decide, hX, hY, by decide, by decide, fun _ => ⟨rfl, rfl⟩⟩
  show tb 0 x = 0
  unfold tb
  simp
