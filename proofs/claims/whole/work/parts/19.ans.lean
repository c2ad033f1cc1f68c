/-! ===== what holds of a scene, of what was worked out; answers ===== -/
def SOK (w h : Int) (f X Y : Int → Int) (n m c : Int) : Prop :=
  (4 ≤ w ∧ w ≤ 11) ∧ (4 ≤ h ∧ h ≤ 11) ∧ (∀ k : Int, 0 ≤ k → k < 11 → 0 ≤ f k ∧ f k ≤ 2047) ∧ (∀ y x : Int, 0 ≤ y → y < 11 → 0 ≤ x → x < 11 → (w ≤ x ∨ h ≤ y) → tb (f y) x = 0) ∧ (1 ≤ n ∧ n ≤ 10) ∧ (∀ d : Int, 0 ≤ d → d < 10 → -5 ≤ X d ∧ X d ≤ 5) ∧ (∀ d : Int, 0 ≤ d → d < 10 → -5 ≤ Y d ∧ Y d ≤ 5) ∧ (0 ≤ m ∧ m ≤ 2) ∧ (1 ≤ c ∧ c ≤ 99)
def FOK (fs w h : Int) (f : Int → Int) (m c : Int) (D : Int → Int) (fw fh : Int) : Prop :=
  (fs = 0 ∨ fs = 1) ∧ (fs = 0 → FLD w h f m c D ∧ (∀ k : Int, 0 ≤ k → k < 169 → 0 ≤ D k ∧ D k ≤ 99) ∧ fw = w ∧ fh = h)
def RSc (w h : Int) (f X Y : Int → Int) (n m c : Int) : Int → Prop := RS w h (fun a b => farS (EE w h f) m c a b) X Y n
def ROK (rs w h : Int) (f X Y : Int → Int) (n m c : Int) (T : Int → Int) (fo : Int) (Fp Ch : Int → Int) (cc cb : Int) : Prop :=
  (rs = 0 ∨ rs = 1) ∧ (0 ≤ cb ∧ cb ≤ 20) ∧ (rs = 0 → TOP (RSc w h f X Y n m c) T fo ∧ FAP (RSc w h f X Y n m c) Fp ∧ ∀ a : Int, 1 ≤ a → cb = a → SPR (RSc w h f X Y n m c) a Ch cc)
def LKO (sc tn fl : Int) : Prop := (sc = 2 ∨ sc = 3 ∨ sc = 4) ∧ (0 ≤ tn ∧ tn ≤ 3) ∧ (fl = 0 ∨ fl = 1)
def SAM (nx hz : Int) (bz : Int → Int) (gs : Int → SCT) (fs rs nx2 hz2 : Int) (bz2 : Int → Int) (gs2 : Int → SCT) (fs2 rs2 : Int) : Prop := nx2 = nx ∧ hz2 = hz ∧ bz2 = bz ∧ gs2 = gs ∧ fs2 = fs ∧ rs2 = rs
def CHG (nx hz : Int) (bz : Int → Int) (gs : Int → SCT) (bs : Int) (v : SCT) (nx2 hz2 : Int) (bz2 : Int → Int) (gs2 : Int → SCT) (fs2 rs2 : Int) : Prop := nx2 = (nx + 1) % 6 ∧ hz2 = min (hz + 1) 6 ∧ bz2 = zU bz nx bs ∧ gs2 = upS gs nx v ∧ fs2 = 1 ∧ rs2 = 1
def pOf (T : Int → Int) (n i q : Int) : Int := if i = -1 then n else if 0 ≤ i ∧ i < n then prt (T i) q else -4
theorem RS_fr {w h n : Int} {fr fr' : Int → Int → Int} {X Y : Int → Int} (hn : 0 ≤ n) (hf : ∀ u v : Int, 0 ≤ u → u < w → 0 ≤ v → v < h → fr u v = fr' u v) (r : Int) : RS w h fr X Y n r ↔ RS w h fr' X Y n r := by
  have key : ∀ way k : Int, FT (wX X Y way) (wY X Y way) n w h (k % 11) (k / 11) → rkP fr X Y n way k = rkP fr' X Y n way k := by
    intro way k hF
    have h1 : ∀ d : Int, 0 ≤ d → d < n → wF fr X Y way k d = wF fr' X Y way k d := fun d a b => by
      have := hF d a b
      exact hf _ _ this.1 this.2.1 this.2.2.1 this.2.2.2
    unfold rkP
    rw [sI_cong h1, mxI_cong hn h1]
  constructor
  · rintro ⟨way, k, a1, a2, a3, a4, a5, a6, a7, e⟩
    exact ⟨way, k, a1, a2, a3, a4, a5, a6, a7, by rw [← key way k a7]; exact e⟩
  · rintro ⟨way, k, a1, a2, a3, a4, a5, a6, a7, e⟩
    exact ⟨way, k, a1, a2, a3, a4, a5, a6, a7, by rw [key way k a7]; exact e⟩
theorem RSc_rng {w h n m c : Int} {f X Y : Int → Int} (hn : 0 ≤ n ∧ n ≤ 10) (hc : 0 ≤ c ∧ c ≤ 99) : RNG (RSc w h f X Y n m c) := RS_rng hn (fun u v _ _ _ _ => ⟨farS_nn hc.1, by have := farS_c (EE w h f) m c u v; omega⟩)
/-- the edge that is nearest: 100 y and x -/
def NRS (E : Int → Int) (m x y r : Int) : Prop := (r = -4 ∧ ∀ k : Int, 0 ≤ k → k < 121 → ¬ E k = 1) ∨ ∃ k : Int, 0 ≤ k ∧ k < 121 ∧ E k = 1 ∧ r = 100 * (k / 11) + k % 11 ∧ (∀ j : Int, 0 ≤ j → j < 121 → E j = 1 → dst m (k % 11 - x) (k / 11 - y) ≤ dst m (j % 11 - x) (j / 11 - y)) ∧ ∀ j : Int, 0 ≤ j → j < k → E j = 1 → dst m (k % 11 - x) (k / 11 - y) < dst m (j % 11 - x) (j / 11 - y)
theorem NRS_one {E E' : Int → Int} {m x y r r' : Int} (hE : ∀ k : Int, 0 ≤ k → k < 121 → E k = E' k) (H : NRS E m x y r) (H' : NRS E' m x y r') : r = r' := by
  rcases H with ⟨h1, h2⟩ | ⟨k, k0, k1, k2, k3, k4, k5⟩
  · rcases H' with ⟨g1, g2⟩ | ⟨j, j0, j1, j2, j3, j4, j5⟩
    · omega
    · exact absurd (by rw [hE j j0 j1]; exact j2) (h2 j j0 j1)
  · rcases H' with ⟨g1, g2⟩ | ⟨j, j0, j1, j2, j3, j4, j5⟩
    · exact absurd (by rw [← hE k k0 k1]; exact k2) (g2 k k0 k1)
    · have e1 : E j = 1 := by rw [hE j j0 j1]; exact j2
      have e2 : E' k = 1 := by rw [← hE k k0 k1]; exact k2
      have a1 := k4 j j0 j1 e1
      have a2 := j4 k k0 k1 e2
      by_cases q : j < k
      · have := k5 j j0 q e1; omega
      · by_cases q2 : k < j
        · have := j5 k k0 q2 e2; omega
        · have : j = k := by omega
          subst this; omega
/-- the nearest of the cells ahead of number K -/
def NRP (E : Int → Int) (m x y K r ls : Int) : Prop := (r = -4 ∧ ls = 1073741824 ∧ ∀ k : Int, 0 ≤ k → k < K → ¬ E k = 1) ∨ ∃ k : Int, 0 ≤ k ∧ k < K ∧ E k = 1 ∧ r = 100 * (k / 11) + k % 11 ∧ ls = dst m (k % 11 - x) (k / 11 - y) ∧ (∀ j : Int, 0 ≤ j → j < K → E j = 1 → ls ≤ dst m (j % 11 - x) (j / 11 - y)) ∧ ∀ j : Int, 0 ≤ j → j < k → E j = 1 → ls < dst m (j % 11 - x) (j / 11 - y)
theorem NRP_new {E : Int → Int} {m x y K r ls : Int} (hK : 0 ≤ K) (he : E K = 1) (hl : dst m (K % 11 - x) (K / 11 - y) < ls) (H : NRP E m x y K r ls) : NRP E m x y (K + 1) (100 * (K / 11) + K % 11) (dst m (K % 11 - x) (K / 11 - y)) := by
  refine Or.inr ⟨K, hK, by omega, he, rfl, rfl, fun j a b c => ?_, fun j a b c => ?_⟩
  · by_cases e : j = K
    · rw [e]; omega
    · rcases H with ⟨-, -, h3⟩ | ⟨k, -, -, -, -, -, h6, -⟩
      · exact absurd c (h3 j a (by omega))
      · have := h6 j a (by omega) c; omega
  · rcases H with ⟨-, -, h3⟩ | ⟨k, -, -, -, -, -, h6, -⟩
    · exact absurd c (h3 j a (by omega))
    · have := h6 j a (by omega) c; omega
theorem NRP_old {E : Int → Int} {m x y K r ls : Int} (hd : dst m (K % 11 - x) (K / 11 - y) < 1073741824) (hl : E K = 1 → ls ≤ dst m (K % 11 - x) (K / 11 - y)) (H : NRP E m x y K r ls) : NRP E m x y (K + 1) r ls := by
  rcases H with ⟨h1, h2, h3⟩ | ⟨k, h0, h1, h2, h3, h4, h5, h6⟩
  · refine Or.inl ⟨h1, h2, fun k a b e => ?_⟩
    by_cases q : k = K
    · rw [q] at e
      have := hl e
      omega
    · exact h3 k a (by omega) e
  · refine Or.inr ⟨k, h0, by omega, h2, h3, h4, fun j a b c => ?_, h6⟩
    by_cases q : j = K
    · rw [q] at c ⊢; exact hl c
    · exact h5 j a (by omega) c
theorem NRP_skip {E : Int → Int} {m x y K K' r ls : Int} (hK : K ≤ K') (hn : ∀ k : Int, K ≤ k → k < K' → ¬ E k = 1) (H : NRP E m x y K r ls) : NRP E m x y K' r ls := by
  rcases H with ⟨h1, h2, h3⟩ | ⟨k, h0, h1, h2, h3, h4, h5, h6⟩
  · refine Or.inl ⟨h1, h2, fun k a b e => ?_⟩
    by_cases q : k < K
    · exact h3 k a q e
    · exact hn k (by omega) b e
  · refine Or.inr ⟨k, h0, by omega, h2, h3, h4, fun j a b c => ?_, h6⟩
    by_cases q : j < K
    · exact h5 j a q c
    · exact absurd c (hn j (by omega) b)
theorem NRP_end {E : Int → Int} {m x y r ls : Int} (H : NRP E m x y 121 r ls) : NRS E m x y r := by
  rcases H with ⟨h1, h2, h3⟩ | ⟨k, h0, h1, h2, h3, h4, h5, h6⟩
  · exact Or.inl ⟨h1, h3⟩
  · exact Or.inr ⟨k, h0, h1, h2, h3, fun j a b c => by rw [← h4]; exact h5 j a b c, fun j a b c => by rw [← h4]; exact h6 j a b c⟩
theorem EE_out {w h : Int} {f : Int → Int} {k : Int} (q : ¬ (0 ≤ k % 11 ∧ k % 11 < w ∧ 0 ≤ k / 11 ∧ k / 11 < h)) : ¬ EE w h f k = 1 := by
  unfold EE eA
  rw [if_neg q]
  decide
theorem EE_at {w h x y : Int} {f : Int → Int} (hx : 0 ≤ x ∧ x < 11) : EE w h f (11 * y + x) = eA w h f x y := by
  unfold EE
  rw [show (11 * y + x) % 11 = x by omega, show (11 * y + x) / 11 = y by omega]
/-- 1 if a pose fits -/
noncomputable def ftI (P Q : Int → Int) (n w h x y : Int) : Int := pif (FT P Q n w h x y) 1 0
theorem xo_b {v : Int} {x : Int} (hv : 0 ≤ v ∧ v ≤ 2047) (hx : 0 ≤ x ∧ x < 11) : 0 ≤ xoI v (2 ^ x.toNat) ∧ xoI v (2 ^ x.toNat) ≤ 2047 := by
  obtain ⟨a, rfl⟩ := Int.eq_ofNat_of_zero_le hv.1
  obtain ⟨u, rfl⟩ := Int.eq_ofNat_of_zero_le hx.1
  have hp : (2 : Int) ^ ((u : Int)).toNat = ((2 ^ u : Nat) : Int) := by rw [Int.toNat_natCast]; simp
  unfold xoI
  rw [hp, Int.toNat_natCast, Int.toNat_natCast]
  have h1 : a < 2 ^ 11 := by omega
  have h2 : 2 ^ u < 2 ^ 11 := Nat.pow_lt_pow_right (by decide) (by omega)
  have := Nat.xor_lt_two_pow h1 h2
  omega
theorem fl_b {f : Int → Int} {x y : Int} (hf : ∀ k : Int, 0 ≤ k → k < 11 → 0 ≤ f k ∧ f k ≤ 2047) (hx : 0 ≤ x ∧ x < 11) (hy : 0 ≤ y ∧ y < 11) : ∀ k : Int, 0 ≤ k → k < 11 → 0 ≤ zU f y (xoI (f y) (2 ^ x.toNat)) k ∧ zU f y (xoI (f y) (2 ^ x.toNat)) k ≤ 2047 := zU_bd hf (xo_b (hf y hy.1 hy.2) hx)
theorem an_b {a b : Int} (ha : 0 ≤ a ∧ a ≤ 2047) : 0 ≤ anI a b ∧ anI a b ≤ 2047 := by
  unfold anI
  have := Nat.and_le_left (n := a.toNat) (m := 2047 ^^^ b.toNat)
  omega
