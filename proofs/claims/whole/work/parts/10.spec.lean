/-! ===== the words of the document, as functions of integers ===== -/
def sm (f : Int → Int) : Nat → Int
  | 0 => 0
  | n + 1 => sm f n + f (n : Int)
def sI (f : Int → Int) (i : Int) : Int := sm f i.toNat
theorem sI_0 (f : Int → Int) : sI f 0 = 0 := rfl
theorem sI_s (f : Int → Int) {i : Int} (h : 0 ≤ i) : sI f (i + 1) = sI f i + f i := by
  obtain ⟨n, rfl⟩ := Int.eq_ofNat_of_zero_le h
  show sm f ((n : Int) + 1).toNat = sm f (n : Int).toNat + f n
  rw [show ((n : Int) + 1).toNat = n + 1 by omega, Int.toNat_natCast]
  rfl
theorem sm_cong {f g : Int → Int} : ∀ (n : Nat), (∀ k : Int, 0 ≤ k → k < n → f k = g k) → sm f n = sm g n := by
  intro n
  induction n with
  | zero => intro _; rfl
  | succ n ih => intro h; rw [sm, sm, ih (fun k h0 h1 => h k h0 (by omega)), h n (by omega) (by omega)]
theorem sI_cong {f g : Int → Int} {n : Int} (h : ∀ k : Int, 0 ≤ k → k < n → f k = g k) : sI f n = sI g n := sm_cong _ (fun k h0 h1 => h k h0 (by omega))
theorem sm_bd {f : Int → Int} {lo hi : Int} : ∀ (n : Nat), (∀ k : Int, 0 ≤ k → k < n → lo ≤ f k ∧ f k ≤ hi) → lo * n ≤ sm f n ∧ sm f n ≤ hi * n := by
  intro n
  induction n with
  | zero => intro _; simp [sm]
  | succ n ih =>
    intro h
    have h1 := ih (fun k h0 h1 => h k h0 (by omega))
    have h2 := h n (by omega) (by omega)
    have e1 : lo * ((n + 1 : Nat) : Int) = lo * n + lo := by rw [Int.natCast_add, Int.mul_add]; simp
    have e2 : hi * ((n + 1 : Nat) : Int) = hi * n + hi := by rw [Int.natCast_add, Int.mul_add]; simp
    rw [sm, e1, e2]
    omega
theorem sI_bd {f : Int → Int} {lo hi n : Int} (hn : 0 ≤ n) (h : ∀ k : Int, 0 ≤ k → k < n → lo ≤ f k ∧ f k ≤ hi) : lo * n ≤ sI f n ∧ sI f n ≤ hi * n := by
  have := sm_bd (f := f) (lo := lo) (hi := hi) n.toNat (fun k h0 h1 => h k h0 (by omega))
  rw [Int.toNat_of_nonneg hn] at this
  exact this
/-- the first i of one row, the rest of another -/
def cpI (s d : Int → Int) (i : Int) : Int → Int := fun k => if 0 ≤ k ∧ k < i then s k else d k
theorem cpI_0 (s d : Int → Int) : cpI s d 0 = d := by
  funext k
  exact if_neg (by omega)
theorem cpI_s (s d : Int → Int) {i : Int} (h : 0 ≤ i) : zU (cpI s d i) i (s i) = cpI s d (i + 1) := by
  funext k
  unfold zU cpI
  by_cases hk : k = i
  · rw [if_pos hk, if_pos (by omega), hk]
  · rw [if_neg hk]
    by_cases h1 : 0 ≤ k ∧ k < i
    · rw [if_pos h1, if_pos (by omega)]
    · rw [if_neg h1, if_neg (by omega)]
theorem cpI_in (s d : Int → Int) {i k : Int} (h0 : 0 ≤ k) (h1 : k < i) : cpI s d i k = s k := if_pos ⟨h0, h1⟩
theorem cpI_out (s d : Int → Int) {i k : Int} (h1 : i ≤ k) : cpI s d i k = d k := if_neg (by omega)
/-- a bit of a row -/
def tb (v x : Int) : Int := v / 2 ^ x.toNat % 2
theorem tb_01 (v x : Int) : tb v x = 0 ∨ tb v x = 1 := by
  unfold tb
  omega
def inG (w h x y : Int) : Prop := 0 ≤ x ∧ x < w ∧ 0 ≤ y ∧ y < h
def eA (w h : Int) (f : Int → Int) (x y : Int) : Int := if 0 ≤ x ∧ x < w ∧ 0 ≤ y ∧ y < h then tb (f y) x else 0
theorem eA_01 (w h : Int) (f : Int → Int) (x y : Int) : eA w h f x y = 0 ∨ eA w h f x y = 1 := by
  unfold eA
  split
  · exact tb_01 _ _
  · exact Or.inl rfl
def ab (x : Int) : Int := if 0 ≤ x then x else -x
def dst (m dx dy : Int) : Int := if m = 0 then ab dx + ab dy else if m = 1 then max (ab dx) (ab dy) else 3 * max (ab dx) (ab dy) + min (ab dx) (ab dy)
def xoI (a b : Int) : Int := ((a.toNat ^^^ b.toNat : Nat) : Int)
def orI (a b : Int) : Int := ((a.toNat ||| b.toNat : Nat) : Int)
/-- what of a's bits is not in b -/
def anI (a b : Int) : Int := ((a.toNat &&& (2047 ^^^ b.toNat) : Nat) : Int)
def popI (v : Int) : Int := sI (tb v) 11
theorem zI_n (n : Nat) : zI (n : Int) = nI n := (zI_nat n).symm
theorem nx_and (a b : Nat) : nI a &&& nI b = nI (a &&& b) := by
  apply Int32.toBitVec_inj.1
  show BitVec.ofNat 32 a &&& BitVec.ofNat 32 b = BitVec.ofNat 32 (a &&& b)
  apply BitVec.eq_of_getLsbD_eq
  intro i hi
  simp [hi]
theorem nx_or (a b : Nat) : nI a ||| nI b = nI (a ||| b) := by
  apply Int32.toBitVec_inj.1
  show BitVec.ofNat 32 a ||| BitVec.ofNat 32 b = BitVec.ofNat 32 (a ||| b)
  apply BitVec.eq_of_getLsbD_eq
  intro i hi
  simp [hi]
theorem nx_xor (a b : Nat) : nI a ^^^ nI b = nI (a ^^^ b) := by
  apply Int32.toBitVec_inj.1
  show BitVec.ofNat 32 a ^^^ BitVec.ofNat 32 b = BitVec.ofNat 32 (a ^^^ b)
  apply BitVec.eq_of_getLsbD_eq
  intro i hi
  simp [hi]
theorem nx_sl : ∀ n, n < 32 → ((nI n &&& 31).toBitVec.smod 32).toNat = n := by decide +kernel
theorem z_shr {v x : Int} (hv : 0 ≤ v ∧ v ≤ 2147483647) (hx : 0 ≤ x ∧ x < 32) : zI v >>> (zI x &&& 31) = zI (v / 2 ^ x.toNat) := by
  obtain ⟨n, rfl⟩ := Int.eq_ofNat_of_zero_le hv.1
  obtain ⟨k, rfl⟩ := Int.eq_ofNat_of_zero_le hx.1
  rw [zI_n, zI_n, pk_shrN (by omega) _ k (nx_sl k (by omega)), ← zI_n]
  congr 1
theorem z_and1 {v : Int} (hv : 0 ≤ v ∧ v ≤ 2147483647) : zI v &&& zI 1 = zI (v % 2) := by
  obtain ⟨n, rfl⟩ := Int.eq_ofNat_of_zero_le hv.1
  rw [zI_n, show zI 1 = (1 : Int32) from rfl, pk_andN (by omega) 1 (by decide), ← zI_n]
  congr 1
theorem z_shl {x : Int} (hx : 0 ≤ x ∧ x < 31) : zI 1 <<< (zI x &&& 31) = zI (2 ^ x.toNat) := by
  obtain ⟨k, rfl⟩ := Int.eq_ofNat_of_zero_le hx.1
  have hk : k < 31 := by omega
  have hp : 2 ^ k < 2 ^ 32 := Nat.pow_lt_pow_right (by decide) (by omega)
  rw [show zI 1 = nI 1 from rfl, zI_n, pk_shlN _ k (nx_sl k (by omega)) (by omega), ← zI_n]
  congr 1
  simp
theorem z_xor {a b : Int} (ha : 0 ≤ a) (hb : 0 ≤ b) : zI a ^^^ zI b = zI (xoI a b) := by
  obtain ⟨n, rfl⟩ := Int.eq_ofNat_of_zero_le ha
  obtain ⟨k, rfl⟩ := Int.eq_ofNat_of_zero_le hb
  rw [zI_n, zI_n, nx_xor, ← zI_n]
  rfl
theorem z_or {a b : Int} (ha : 0 ≤ a) (hb : 0 ≤ b) : zI a ||| zI b = zI (orI a b) := by
  obtain ⟨n, rfl⟩ := Int.eq_ofNat_of_zero_le ha
  obtain ⟨k, rfl⟩ := Int.eq_ofNat_of_zero_le hb
  rw [zI_n, zI_n, nx_or, ← zI_n]
  rfl
theorem z_not {b : Int} : zI b ^^^ zI (-1) = zI (-b - 1) := by
  rw [show zI (-b - 1) = -zI b - zI 1 by rw [zI_neg, zI_sub]]
  apply Int32.toBitVec_inj.1
  show (zI b).toBitVec ^^^ BitVec.allOnes 32 = -(zI b).toBitVec - 1#32
  rw [BitVec.xor_allOnes, BitVec.not_eq_neg_add]
theorem z_andn {a b : Int} (ha : 0 ≤ a ∧ a < 2048) (hb : 0 ≤ b ∧ b < 2048) : zI a &&& zI (-b - 1) = zI (anI a b) := by
  obtain ⟨n, rfl⟩ := Int.eq_ofNat_of_zero_le ha.1
  obtain ⟨k, rfl⟩ := Int.eq_ofNat_of_zero_le hb.1
  rw [← z_not]
  unfold anI
  rw [zI_n, zI_n, zI_n]
  apply Int32.toBitVec_inj.1
  show BitVec.ofNat 32 n &&& (BitVec.ofNat 32 k ^^^ BitVec.allOnes 32) = BitVec.ofNat 32 (n &&& (2047 ^^^ k))
  apply BitVec.eq_of_getLsbD_eq
  intro i hi
  simp only [BitVec.getLsbD_and, BitVec.getLsbD_xor, BitVec.getLsbD_ofNat, BitVec.getLsbD_allOnes, hi, decide_true, Bool.true_and, Nat.testBit_and, Nat.testBit_xor]
  by_cases h11 : i < 11
  · rw [show (2047 : Nat).testBit i = true from by
      rw [show (2047 : Nat) = 2 ^ 11 - 1 from rfl, Nat.testBit_two_pow_sub_one]
      exact decide_eq_true h11]
    simp [Bool.xor_comm]
  · rw [show n.testBit i = false from Nat.testBit_lt_two_pow (by
      have : 2 ^ 11 ≤ 2 ^ i := Nat.pow_le_pow_right (by decide) (by omega)
      omega)]
    simp
