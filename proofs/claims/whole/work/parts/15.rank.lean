/-! ===== the first ones of a set of ranks; the first one of each place; those that lie apart ===== -/
def RNG (S : Int → Prop) : Prop := ∀ r : Int, S r → 0 ≤ r ∧ r < 1073741824
theorem RNG_w {S : Int → Prop} {r : Int} (h : RNG S) (hr : S r) : 0 ≤ r ∧ r < 2147483647 := by
  have := h r hr
  omega
def TOP (S : Int → Prop) (T : Int → Int) (n : Int) : Prop :=
  0 ≤ n ∧ n ≤ 10 ∧ (∀ i j : Int, 0 ≤ i → i < j → j < n → T i < T j) ∧ (∀ i : Int, 0 ≤ i → i < n → S (T i)) ∧ ∀ r : Int, S r → (∃ i : Int, 0 ≤ i ∧ i < n ∧ T i = r) ∨ (n = 10 ∧ T 9 < r)
def FAP (S : Int → Prop) (Fp : Int → Int) : Prop :=
  ∀ k : Int, 0 ≤ k → k < 121 → (Fp k = 1073741824 ∧ ∀ r : Int, S r → ¬ r % 121 = k) ∨ (S (Fp k) ∧ Fp k % 121 = k ∧ ∀ r : Int, S r → r % 121 = k → Fp k ≤ r)
theorem TOP_iff {S S' : Int → Prop} {T : Int → Int} {n : Int} (h : ∀ r, S r ↔ S' r) (H : TOP S T n) : TOP S' T n := by
  obtain ⟨h1, h2, h3, h4, h5⟩ := H
  exact ⟨h1, h2, h3, fun i a b => (h _).mp (h4 i a b), fun r hr => h5 r ((h r).mpr hr)⟩
theorem FAP_iff {S S' : Int → Prop} {Fp : Int → Int} (h : ∀ r, S r ↔ S' r) (H : FAP S Fp) : FAP S' Fp := by
  intro k k0 k1
  rcases H k k0 k1 with ⟨a, b⟩ | ⟨a, b, c⟩
  · exact Or.inl ⟨a, fun r hr => b r ((h r).mpr hr)⟩
  · exact Or.inr ⟨(h _).mp a, b, fun r hr => c r ((h r).mpr hr)⟩
theorem TOP_0 (T : Int → Int) : TOP (fun _ => False) T 0 := ⟨by decide, by decide, fun i j a b c => by omega, fun i a b => by omega, fun r h => h.elim⟩
theorem FAP_0 {Fp : Int → Int} (h : ∀ k : Int, 0 ≤ k → k < 121 → Fp k = 1073741824) : FAP (fun _ => False) Fp := fun k k0 k1 => Or.inl ⟨h k k0 k1, fun r h => h.elim⟩
theorem FAP_b {S : Int → Prop} {Fp : Int → Int} (hR : RNG S) (H : FAP S Fp) : ∀ k : Int, 0 ≤ k → k < 121 → 0 ≤ Fp k ∧ Fp k ≤ 1073741824 := by
  intro k k0 k1
  rcases H k k0 k1 with ⟨a, -⟩ | ⟨a, -, -⟩
  · omega
  · have := hR _ a
    omega
theorem FAP_ins {S : Int → Prop} {Fp : Int → Int} {r0 pl : Int} (hr : 0 ≤ r0 ∧ r0 < 1073741824) (hp : r0 % 121 = pl) (hR : RNG S) (H : FAP S Fp) : FAP (fun r => S r ∨ r = r0) (zU Fp pl (min (Fp pl) r0)) := by
  intro k k0 k1
  by_cases e : k = pl
  · subst e
    rw [zU_eq]
    refine Or.inr ?_
    rcases H k k0 k1 with ⟨a, b⟩ | ⟨a, b, c⟩
    · rw [a, Int.min_eq_right (by omega)]
      refine ⟨Or.inr rfl, hp, fun r h1 h2 => ?_⟩
      rcases h1 with h1 | h1
      · exact absurd h2 (b r h1)
      · omega
    · by_cases q : Fp k ≤ r0
      · rw [Int.min_eq_left q]
        refine ⟨Or.inl a, b, fun r h1 h2 => ?_⟩
        rcases h1 with h1 | h1
        · exact c r h1 h2
        · omega
      · rw [Int.min_eq_right (by omega)]
        refine ⟨Or.inr rfl, hp, fun r h1 h2 => ?_⟩
        rcases h1 with h1 | h1
        · have := c r h1 h2; omega
        · omega
  · rw [zU_ne _ _ e]
    rcases H k k0 k1 with ⟨a, b⟩ | ⟨a, b, c⟩
    · refine Or.inl ⟨a, fun r h1 => ?_⟩
      rcases h1 with h1 | h1
      · exact b r h1
      · subst h1; omega
    · refine Or.inr ⟨Or.inl a, b, fun r h1 h2 => ?_⟩
      rcases h1 with h1 | h1
      · exact c r h1 h2
      · subst h1; omega
/-- the row while a place is made at j, below a0 -/
def SHF (T T1 : Int → Int) (r0 a0 j : Int) : Prop := (∀ i : Int, 0 ≤ i → i < j → T1 i = T i) ∧ (∀ i : Int, j < i → i ≤ a0 → T1 i = T (i - 1)) ∧ ∀ i : Int, j ≤ i → i < a0 → r0 < T i
theorem SHF_0 (T : Int → Int) (r0 a0 : Int) : SHF T T r0 a0 a0 := ⟨fun i _ _ => rfl, fun i a b => by omega, fun i a b => by omega⟩
theorem SHF_s {T T1 : Int → Int} {r0 a0 j : Int} (hj : 0 < j ∧ j ≤ a0) (hr : r0 < T1 (j - 1)) (H : SHF T T1 r0 a0 j) : SHF T (zU T1 j (T1 (j - 1))) r0 a0 (j - 1) := by
  obtain ⟨h1, h2, h3⟩ := H
  refine ⟨fun i a b => ?_, fun i a b => ?_, fun i a b => ?_⟩
  · rw [zU_ne _ _ (by omega)]; exact h1 i a (by omega)
  · by_cases e : i = j
    · rw [e, zU_eq]; exact h1 (j - 1) (by omega) (by omega)
    · rw [zU_ne _ _ e]; exact h2 i (by omega) b
  · by_cases e : i = j - 1
    · rw [e, ← h1 (j - 1) (by omega) (by omega)]; exact hr
    · exact h3 i (by omega) b
theorem TOP_ins {S : Int → Prop} {T T1 : Int → Int} {n r0 a0 j : Int} (H : TOP S T n) (hn : ¬ S r0) (ha : a0 = min n 9) (h10 : n = 10 → r0 ≤ T 9) (hj : 0 ≤ j ∧ j ≤ a0) (hs : SHF T T1 r0 a0 j) (hl : j = 0 ∨ T1 (j - 1) ≤ r0) : TOP (fun r => S r ∨ r = r0) (zU T1 j r0) (min (n + 1) 10) := by
  obtain ⟨h1, h2, h3, h4, h5⟩ := H
  obtain ⟨s1, s2, s3⟩ := hs
  have hne : ∀ i : Int, 0 ≤ i → i < n → T i ≠ r0 := fun i a b e => hn (e ▸ h4 i a b)
  have hlow : ∀ i : Int, 0 ≤ i → i < j → T i < r0 := by
    intro i a b
    rcases hl with hl | hl
    · omega
    · rw [s1 (j - 1) (by omega) (by omega)] at hl
      have := hne (j - 1) (by omega) (by omega)
      by_cases e : i = j - 1
      · rw [e]; omega
      · have := h3 i (j - 1) a (by omega) (by omega)
        omega
  have hv : ∀ i : Int, 0 ≤ i → i ≤ a0 → zU T1 j r0 i = if i < j then T i else if i = j then r0 else T (i - 1) := by
    intro i a b
    by_cases e : i = j
    · rw [e, zU_eq, if_neg (by omega), if_pos rfl]
    · rw [zU_ne _ _ e]
      by_cases q : i < j
      · rw [if_pos q]; exact s1 i a q
      · rw [if_neg q, if_neg e]; exact s2 i (by omega) b
  refine ⟨by omega, by omega, fun i k a b c => ?_, fun i a b => ?_, fun r hr => ?_⟩
  · rw [hv i a (by omega), hv k (by omega) (by omega)]
    by_cases q1 : i < j
    · rw [if_pos q1]
      by_cases q2 : k < j
      · rw [if_pos q2]; exact h3 i k a b (by omega)
      · rw [if_neg q2]
        by_cases q3 : k = j
        · rw [if_pos q3]; exact hlow i a q1
        · rw [if_neg q3]
          have := hlow i a q1
          have := s3 (k - 1) (by omega) (by omega)
          omega
    · rw [if_neg q1]
      by_cases q2 : i = j
      · rw [if_pos q2, if_neg (by omega), if_neg (by omega)]
        exact s3 (k - 1) (by omega) (by omega)
      · rw [if_neg q2, if_neg (by omega), if_neg (by omega)]
        exact h3 (i - 1) (k - 1) (by omega) (by omega) (by omega)
  · rw [hv i a (by omega)]
    by_cases q1 : i < j
    · rw [if_pos q1]; exact Or.inl (h4 i a (by omega))
    · rw [if_neg q1]
      by_cases q2 : i = j
      · rw [if_pos q2]; exact Or.inr rfl
      · rw [if_neg q2]; exact Or.inl (h4 (i - 1) (by omega) (by omega))
  · have hlast : ∀ q : n = 10, zU T1 j r0 9 < T 9 ∨ (j = 9 ∧ zU T1 j r0 9 = r0) := by
      intro q
      rw [hv 9 (by omega) (by omega)]
      by_cases q1 : j = 9
      · right; exact ⟨q1, by rw [if_neg (by omega), if_pos (by omega)]⟩
      · left
        rw [if_neg (by omega), if_neg (by omega)]
        exact h3 8 9 (by omega) (by omega) (by omega)
    rcases hr with hr | hr
    · rcases h5 r hr with ⟨i, a, b, e⟩ | ⟨e1, e2⟩
      · by_cases q1 : i < j
        · exact Or.inl ⟨i, a, by omega, by rw [hv i a (by omega), if_pos q1]; exact e⟩
        · by_cases q2 : i + 1 ≤ a0
          · exact Or.inl ⟨i + 1, by omega, by omega, by rw [hv (i + 1) (by omega) q2, if_neg (by omega), if_neg (by omega), show i + 1 - 1 = i by omega]; exact e⟩
          · have hn10 : n = 10 := by omega
            have hi9 : i = 9 := by omega
            subst hi9
            refine Or.inr ⟨by omega, ?_⟩
            have := h10 hn10
            have := hne 9 (by omega) (by omega)
            rcases hlast hn10 with z | ⟨z1, z2⟩ <;> omega
      · refine Or.inr ⟨by omega, ?_⟩
        have := h10 e1
        rcases hlast e1 with z | ⟨z1, z2⟩ <;> omega
    · subst hr
      exact Or.inl ⟨j, hj.1, by omega, by rw [zU_eq]⟩
theorem TOP_out {S : Int → Prop} {T : Int → Int} {r0 : Int} (H : TOP S T 10) (h : T 9 < r0) : TOP (fun r => S r ∨ r = r0) T 10 := by
  obtain ⟨h1, h2, h3, h4, h5⟩ := H
  refine ⟨h1, h2, h3, fun i a b => Or.inl (h4 i a b), fun r hr => ?_⟩
  rcases hr with hr | hr
  · exact h5 r hr
  · subst hr; exact Or.inr ⟨rfl, h⟩
theorem TOP_le {S : Int → Prop} {T T' : Int → Int} {n n' : Int} (H : TOP S T n) (H' : TOP S T' n') (k : Nat) (hk : (k : Int) < n) (ih : ∀ i : Int, 0 ≤ i → i < k → i < n' ∧ T' i = T i) : (k : Int) < n' ∧ T' k ≤ T k := by
  obtain ⟨h1, h2, h3, h4, h5⟩ := H
  obtain ⟨g1, g2, g3, g4, g5⟩ := H'
  have hS := h4 k (by omega) hk
  rcases g5 _ hS with ⟨i, a, b, e⟩ | ⟨e1, e2⟩
  · by_cases q : i < k
    · have := (ih i a q).2
      have := h3 i k a q hk
      omega
    · refine ⟨by omega, ?_⟩
      by_cases q2 : i = k
      · subst q2; omega
      · have := g3 k i (by omega) (by omega) b
        omega
  · refine ⟨by omega, ?_⟩
    by_cases q2 : (k : Int) = 9
    · rw [q2]; rw [q2] at e2; omega
    · have := g3 k 9 (by omega) (by omega) (by omega)
      omega
theorem TOP_one {S : Int → Prop} {T T' : Int → Int} {n n' : Int} (H : TOP S T n) (H' : TOP S T' n') : n = n' ∧ ∀ i : Int, 0 ≤ i → i < n → T i = T' i := by
  have key : ∀ k : Nat, ((k : Int) < n ∨ (k : Int) < n' → (k : Int) < n ∧ (k : Int) < n' ∧ T k = T' k) := by
    intro k
    induction k using Nat.strongRecOn with
    | _ k ih =>
      have ih2 : ∀ i : Int, 0 ≤ i → i < k → (i < n ∨ i < n') → i < n ∧ i < n' ∧ T i = T' i := by
        intro i a b c
        obtain ⟨j, rfl⟩ := Int.eq_ofNat_of_zero_le a
        exact ih j (by omega) c
      intro hk
      rcases hk with hk | hk
      · have h1 := TOP_le H H' k hk (fun i a b => by have := ih2 i a b (Or.inl (by omega)); exact ⟨this.2.1, this.2.2.symm⟩)
        have h2 := TOP_le H' H k h1.1 (fun i a b => by have := ih2 i a b (Or.inl (by omega)); exact ⟨this.1, this.2.2⟩)
        exact ⟨hk, h1.1, by omega⟩
      · have h1 := TOP_le H' H k hk (fun i a b => by have := ih2 i a b (Or.inr (by omega)); exact ⟨this.1, this.2.2⟩)
        have h2 := TOP_le H H' k h1.1 (fun i a b => by have := ih2 i a b (Or.inr (by omega)); exact ⟨this.2.1, this.2.2.symm⟩)
        exact ⟨h1.1, hk, by omega⟩
  have hn := H.1
  have hn' := H'.1
  refine ⟨?_, fun i a b => ?_⟩
  · by_cases q : n < n'
    · have := key n.toNat (Or.inr (by omega)); omega
    · by_cases q2 : n' < n
      · have := key n'.toNat (Or.inl (by omega)); omega
      · omega
  · obtain ⟨j, rfl⟩ := Int.eq_ofNat_of_zero_le a
    exact (key j (Or.inl b)).2.2
/-- places apart by CITY -/
def apk (a k c : Int) : Prop := a ≤ ab (k % 11 - c % 121 % 11) + ab (k / 11 - c % 121 / 11)
/-- the first ones that lie apart -/
def SPR (S : Int → Prop) (a : Int) (C : Int → Int) (m : Int) : Prop :=
  0 ≤ m ∧ m ≤ 10 ∧ (∀ i : Int, 0 ≤ i → i < m → S (C i) ∧ (∀ j : Int, 0 ≤ j → j < i → apk a (C i % 121) (C j)) ∧ ∀ r : Int, S r → (∀ j : Int, 0 ≤ j → j < i → apk a (r % 121) (C j)) → C i ≤ r) ∧ (m = 10 ∨ ∀ r : Int, S r → ¬ ∀ j : Int, 0 ≤ j → j < m → apk a (r % 121) (C j))
theorem apk_self {a c : Int} (ha : 1 ≤ a) : ¬ apk a (c % 121) c := by
  unfold apk
  rw [Int.sub_self, Int.sub_self]
  unfold ab
  simp
  omega
theorem SPR_one {S : Int → Prop} {a : Int} {C C' : Int → Int} {m m' : Int} (H : SPR S a C m) (H' : SPR S a C' m') : m = m' ∧ ∀ i : Int, 0 ≤ i → i < m → C i = C' i := by
  obtain ⟨h1, h2, h3, h4⟩ := H
  obtain ⟨g1, g2, g3, g4⟩ := H'
  have key : ∀ k : Nat, ((k : Int) < m ∨ (k : Int) < m' → (k : Int) < m ∧ (k : Int) < m' ∧ C k = C' k) := by
    intro k
    induction k using Nat.strongRecOn with
    | _ k ih =>
      have ih2 : ∀ i : Int, 0 ≤ i → i < k → (i < m ∨ i < m') → i < m ∧ i < m' ∧ C i = C' i := by
        intro i a b c
        obtain ⟨j, rfl⟩ := Int.eq_ofNat_of_zero_le a
        exact ih j (by omega) c
      intro hk
      have e1 : ∀ {q : Prop}, (k : Int) < m → (k : Int) < m' → C k = C' k := by
        intro q z1 z2
        obtain ⟨a1, a2, a3⟩ := h3 k (by omega) z1
        obtain ⟨b1, b2, b3⟩ := g3 k (by omega) z2
        have c1 := a3 (C' k) b1 (fun j j0 j1 => by rw [(ih2 j j0 j1 (Or.inl (by omega))).2.2]; exact b2 j j0 j1)
        have c2 := b3 (C k) a1 (fun j j0 j1 => by rw [← (ih2 j j0 j1 (Or.inl (by omega))).2.2]; exact a2 j j0 j1)
        omega
      rcases hk with hk | hk
      · have hlt : (k : Int) < m' := by
          apply Classical.byContradiction
          intro z
          obtain ⟨a1, a2, a3⟩ := h3 k (by omega) hk
          have hm' : m' = k := by
            by_cases q : m' < k
            · have := ih2 m' g1 q (Or.inl (by omega)); omega
            · omega
          rcases g4 with g4 | g4
          · omega
          · exact g4 _ a1 (fun j j0 j1 => by rw [← (ih2 j j0 (by omega) (Or.inr j1)).2.2]; exact a2 j j0 (by omega))
        exact ⟨hk, hlt, e1 (q := True) hk hlt⟩
      · have hlt : (k : Int) < m := by
          apply Classical.byContradiction
          intro z
          obtain ⟨a1, a2, a3⟩ := g3 k (by omega) hk
          have hm' : m = k := by
            by_cases q : m < k
            · have := ih2 m h1 q (Or.inr (by omega)); omega
            · omega
          rcases h4 with h4 | h4
          · omega
          · exact h4 _ a1 (fun j j0 j1 => by rw [(ih2 j j0 (by omega) (Or.inl j1)).2.2]; exact a2 j j0 (by omega))
        exact ⟨hlt, hk, e1 (q := True) hlt hk⟩
  refine ⟨?_, fun i a b => ?_⟩
  · by_cases q : m < m'
    · have := key m.toNat (Or.inr (by omega)); omega
    · by_cases q2 : m' < m
      · have := key m'.toNat (Or.inl (by omega)); omega
      · omega
  · obtain ⟨j, rfl⟩ := Int.eq_ofNat_of_zero_le a
    exact (key j (Or.inl b)).2.2
/-- the places still open -/
def OPN (a : Int) (C : Int → Int) (i : Int) (O : Int → Int) : Prop := ∀ k : Int, 0 ≤ k → k < 121 → (O k = 1 ∧ ∀ j : Int, 0 ≤ j → j < i → apk a k (C j)) ∨ (O k = 0 ∧ ¬ ∀ j : Int, 0 ≤ j → j < i → apk a k (C j))
/-- the first i that lie apart, more to come -/
def SPP (S : Int → Prop) (a : Int) (C : Int → Int) (i : Int) : Prop := ∀ t : Int, 0 ≤ t → t < i → S (C t) ∧ (∀ j : Int, 0 ≤ j → j < t → apk a (C t % 121) (C j)) ∧ ∀ r : Int, S r → (∀ j : Int, 0 ≤ j → j < t → apk a (r % 121) (C j)) → C t ≤ r
def FOP (Fp O : Int → Int) (r : Int) : Prop := (∀ k : Int, 0 ≤ k → k < 121 → O k = 1 → r ≤ Fp k) ∧ (r = 1073741824 ∨ ∃ k : Int, 0 ≤ k ∧ k < 121 ∧ O k = 1 ∧ Fp k = r)
theorem SPP_s {S : Int → Prop} {a : Int} {C Fp O : Int → Int} {i r : Int} (hi : 0 ≤ i) (hR : RNG S) (hF : FAP S Fp) (hO : OPN a C i O) (hr : FOP Fp O r) (hne : ¬ r = 1073741824) (H : SPP S a C i) : SPP S a (zU C i r) (i + 1) := by
  have hz : ∀ j : Int, j < i → zU C i r j = C j := fun j h => zU_ne _ _ (by omega)
  intro t t0 t1
  by_cases e : t = i
  · subst e
    obtain ⟨f1, f2⟩ := hr
    rcases f2 with f2 | ⟨k, k0, k1, k2, k3⟩
    · exact absurd f2 hne
    · rw [zU_eq]
      rcases hF k k0 k1 with ⟨q1, -⟩ | ⟨q1, q2, q3⟩
      · omega
      · rw [k3] at q1 q2 q3
        refine ⟨q1, fun j j0 j1 => ?_, fun s hs hj => ?_⟩
        · rw [hz j j1, q2]
          rcases hO k k0 k1 with ⟨-, o2⟩ | ⟨o1, -⟩
          · exact o2 j j0 j1
          · omega
        · have hs2 := hR s hs
          have hk0 : 0 ≤ s % 121 ∧ s % 121 < 121 := by omega
          rcases hF (s % 121) hk0.1 hk0.2 with ⟨-, w⟩ | ⟨-, -, w⟩
          · exact absurd rfl (w s hs)
          · have h5 := w s hs rfl
            have h6 := f1 (s % 121) hk0.1 hk0.2 (by
              rcases hO (s % 121) hk0.1 hk0.2 with ⟨o1, -⟩ | ⟨-, o2⟩
              · exact o1
              · exact absurd (fun j j0 j1 => by have := hj j j0 j1; rw [hz j j1] at this; exact this) o2)
            omega
  · obtain ⟨a1, a2, a3⟩ := H t t0 (by omega)
    rw [hz t (by omega)]
    exact ⟨a1, fun j j0 j1 => by rw [hz j (by omega)]; exact a2 j j0 j1, fun s hs hj => a3 s hs (fun j j0 j1 => by have := hj j j0 j1; rw [hz j (by omega)] at this; exact this)⟩
theorem SPP_end {S : Int → Prop} {a : Int} {C Fp O : Int → Int} {i : Int} (hi : 0 ≤ i ∧ i ≤ 10) (hR : RNG S) (hF : FAP S Fp) (hO : OPN a C i O) (hr : FOP Fp O 1073741824) (H : SPP S a C i) : SPR S a C i := by
  refine ⟨hi.1, hi.2, H, Or.inr fun s hs hj => ?_⟩
  have hs2 := hR s hs
  have hk0 : 0 ≤ s % 121 ∧ s % 121 < 121 := by omega
  rcases hF (s % 121) hk0.1 hk0.2 with ⟨-, w⟩ | ⟨q1, -, w⟩
  · exact absurd rfl (w s hs)
  · have h5 := w s hs rfl
    have h6 := hr.1 (s % 121) hk0.1 hk0.2 (by
      rcases hO (s % 121) hk0.1 hk0.2 with ⟨o1, -⟩ | ⟨-, o2⟩
      · exact o1
      · exact absurd hj o2)
    have := hR _ q1
    omega
theorem OPN_0 {a : Int} {C O : Int → Int} (h : ∀ k : Int, 0 ≤ k → k < 121 → O k = 1) : OPN a C 0 O := fun k k0 k1 => Or.inl ⟨h k k0 k1, fun j j0 j1 => by omega⟩
theorem OPN_s {a : Int} {C O O2 : Int → Int} {i r : Int} (hi : 0 ≤ i) (hO : OPN a C i O) (h2 : ∀ k : Int, 0 ≤ k → k < 121 → O2 k = if ab (k % 11 - r % 121 % 11) + ab (k / 11 - r % 121 / 11) < a then 0 else O k) : OPN a (zU C i r) (i + 1) O2 := by
  have hz : ∀ j : Int, j < i → zU C i r j = C j := fun j h => zU_ne _ _ (by omega)
  intro k k0 k1
  rw [h2 k k0 k1]
  have hai : apk a k r ↔ ¬ ab (k % 11 - r % 121 % 11) + ab (k / 11 - r % 121 / 11) < a := by unfold apk; omega
  by_cases q : ab (k % 11 - r % 121 % 11) + ab (k / 11 - r % 121 / 11) < a
  · rw [if_pos q]
    refine Or.inr ⟨rfl, fun z => ?_⟩
    have := z i hi (by omega)
    rw [zU_eq] at this
    exact hai.mp this q
  · rw [if_neg q]
    rcases hO k k0 k1 with ⟨o1, o2⟩ | ⟨o1, o2⟩
    · refine Or.inl ⟨o1, fun j j0 j1 => ?_⟩
      by_cases e : j = i
      · rw [e, zU_eq]; exact hai.mpr q
      · rw [hz j (by omega)]; exact o2 j j0 (by omega)
    · refine Or.inr ⟨o1, fun z => o2 fun j j0 j1 => ?_⟩
      have := z j j0 (by omega)
      rw [hz j j1] at this
      exact this
/-! ===== the ranks of all poses ===== -/
def wX (X Y : Int → Int) (way : Int) : Int → Int := fun d => lX (way / 8 + 2) (way / 2 % 4) (way % 2) (X d) (Y d)
def wY (X Y : Int → Int) (way : Int) : Int → Int := fun d => lY (way / 8 + 2) (way / 2 % 4) (way % 2) (X d) (Y d)
def wF (fr : Int → Int → Int) (X Y : Int → Int) (way k : Int) : Int → Int := fun d => fr (k % 11 + wX X Y way d) (k / 11 + wY X Y way d)
def rkP (fr : Int → Int → Int) (X Y : Int → Int) (n way k : Int) : Int := ((sI (wF fr X Y way k) n * 100 + mxI (wF fr X Y way k) n) * 24 + way) * 121 + k
/-- the ranks of the poses ahead of one -/
def RSB (w h : Int) (fr : Int → Int → Int) (X Y : Int → Int) (n mn y x : Int) : Int → Prop := fun r => ∃ way k : Int, 0 ≤ way ∧ way < 24 ∧ 0 ≤ k ∧ k < 121 ∧ k % 11 < w ∧ k / 11 < h ∧ FT (wX X Y way) (wY X Y way) n w h (k % 11) (k / 11) ∧ r = rkP fr X Y n way k ∧ (way < mn ∨ way = mn ∧ (k / 11 < y ∨ k / 11 = y ∧ k % 11 < x))
def RS (w h : Int) (fr : Int → Int → Int) (X Y : Int → Int) (n : Int) : Int → Prop := fun r => ∃ way k : Int, 0 ≤ way ∧ way < 24 ∧ 0 ≤ k ∧ k < 121 ∧ k % 11 < w ∧ k / 11 < h ∧ FT (wX X Y way) (wY X Y way) n w h (k % 11) (k / 11) ∧ r = rkP fr X Y n way k
theorem mxI_b {F : Int → Int} {n : Int} (hn : 0 ≤ n) (h : ∀ d : Int, 0 ≤ d → d < n → 0 ≤ F d ∧ F d ≤ 99) : 0 ≤ mxI F n ∧ mxI F n ≤ 99 := by
  obtain ⟨k, rfl⟩ := Int.eq_ofNat_of_zero_le hn
  induction k with
  | zero => exact ⟨Int.le_refl _, show (0 : Int) ≤ 99 by decide⟩
  | succ k ih =>
    have h1 := ih (by omega) (fun d a b => h d a (by omega))
    have h2 := h k (by omega) (by omega)
    rw [show ((k + 1 : Nat) : Int) = (k : Int) + 1 by omega, mxI_s _ (by omega)]
    split <;> omega
theorem mxI_cong {F G : Int → Int} {n : Int} (hn : 0 ≤ n) (h : ∀ d : Int, 0 ≤ d → d < n → F d = G d) : mxI F n = mxI G n := by
  obtain ⟨k, rfl⟩ := Int.eq_ofNat_of_zero_le hn
  induction k with
  | zero => rfl
  | succ k ih =>
    have h1 := ih (by omega) (fun d a b => h d a (by omega))
    rw [show ((k + 1 : Nat) : Int) = (k : Int) + 1 by omega, mxI_s _ (by omega), mxI_s _ (by omega), h1, h k (by omega) (by omega)]
theorem wdI_cong {F G : Int → Int} {n : Int} (hn : 0 ≤ n) (h : ∀ d : Int, 0 ≤ d → d < n → F d = G d) : wdI F n = wdI G n := by
  obtain ⟨k, rfl⟩ := Int.eq_ofNat_of_zero_le hn
  induction k with
  | zero => rfl
  | succ k ih =>
    have h1 := ih (by omega) (fun d a b => h d a (by omega))
    have h2 := mxI_cong (F := F) (G := G) (n := (k : Int)) (by omega) (fun d a b => h d a (by omega))
    rw [show ((k + 1 : Nat) : Int) = (k : Int) + 1 by omega, wdI_s _ (by omega), wdI_s _ (by omega), h1, h2, h k (by omega) (by omega)]
theorem rk_b {i v way k : Int} (hi : 0 ≤ i ∧ i ≤ 990) (hv : 0 ≤ v ∧ v ≤ 99) (hw : 0 ≤ way ∧ way < 24) (hk : 0 ≤ k ∧ k < 121) : (0 ≤ ((i * 100 + v) * 24 + way) * 121 + k ∧ ((i * 100 + v) * 24 + way) * 121 + k < 1073741824) ∧ (((i * 100 + v) * 24 + way) * 121 + k) % 121 = k ∧ (((i * 100 + v) * 24 + way) * 121 + k) / 121 % 24 = way := by omega
theorem rkP_b {w h n way k : Int} {fr : Int → Int → Int} {X Y : Int → Int} (hn : 0 ≤ n ∧ n ≤ 10) (hf : ∀ u v : Int, 0 ≤ u → u < w → 0 ≤ v → v < h → 0 ≤ fr u v ∧ fr u v ≤ 99) (hw : 0 ≤ way ∧ way < 24) (hk : 0 ≤ k ∧ k < 121) (hF : FT (wX X Y way) (wY X Y way) n w h (k % 11) (k / 11)) : (0 ≤ rkP fr X Y n way k ∧ rkP fr X Y n way k < 1073741824) ∧ rkP fr X Y n way k % 121 = k ∧ rkP fr X Y n way k / 121 % 24 = way := by
  have hb : ∀ d : Int, 0 ≤ d → d < n → 0 ≤ wF fr X Y way k d ∧ wF fr X Y way k d ≤ 99 := fun d a b => by
    have := hF d a b
    exact hf _ _ this.1 this.2.1 this.2.2.1 this.2.2.2
  have h1 := sI_bd hn.1 hb
  have h2 := mxI_b hn.1 hb
  exact rk_b (by omega) h2 hw hk
theorem RS_rng {w h n : Int} {fr : Int → Int → Int} {X Y : Int → Int} (hn : 0 ≤ n ∧ n ≤ 10) (hf : ∀ u v : Int, 0 ≤ u → u < w → 0 ≤ v → v < h → 0 ≤ fr u v ∧ fr u v ≤ 99) : RNG (RS w h fr X Y n) := by
  rintro r ⟨way, k, a1, a2, a3, a4, a5, a6, a7, rfl⟩
  exact (rkP_b hn hf ⟨a1, a2⟩ ⟨a3, a4⟩ a7).1
theorem RSB_rng {w h n mn y x : Int} {fr : Int → Int → Int} {X Y : Int → Int} (hn : 0 ≤ n ∧ n ≤ 10) (hf : ∀ u v : Int, 0 ≤ u → u < w → 0 ≤ v → v < h → 0 ≤ fr u v ∧ fr u v ≤ 99) : RNG (RSB w h fr X Y n mn y x) := by
  rintro r ⟨way, k, a1, a2, a3, a4, a5, a6, a7, rfl, -⟩
  exact (rkP_b hn hf ⟨a1, a2⟩ ⟨a3, a4⟩ a7).1
theorem RSB_new {w h n mn y x : Int} {fr : Int → Int → Int} {X Y : Int → Int} (hn : 0 ≤ n ∧ n ≤ 10) (hf : ∀ u v : Int, 0 ≤ u → u < w → 0 ≤ v → v < h → 0 ≤ fr u v ∧ fr u v ≤ 99) (hm : 0 ≤ mn ∧ mn < 24) (hx : 0 ≤ x ∧ x < 11 ∧ 0 ≤ y ∧ y < 11) (hF : FT (wX X Y mn) (wY X Y mn) n w h x y) : ¬ RSB w h fr X Y n mn y x (rkP fr X Y n mn (y * 11 + x)) := by
  rintro ⟨way, k, a1, a2, a3, a4, a5, a6, a7, e, hb⟩
  have hk : (y * 11 + x) % 11 = x ∧ (y * 11 + x) / 11 = y := by omega
  have h1 := rkP_b hn hf hm (k := y * 11 + x) (by omega) (by rw [hk.1, hk.2]; exact hF)
  have h2 := rkP_b hn hf ⟨a1, a2⟩ ⟨a3, a4⟩ a7
  rw [e] at h1
  omega
theorem RSB_s {w h n mn y x : Int} {fr : Int → Int → Int} {X Y : Int → Int} (hm : 0 ≤ mn ∧ mn < 24) (hw : w ≤ 11 ∧ h ≤ 11) (hx : 0 ≤ x ∧ x < w ∧ 0 ≤ y ∧ y < h) (hF : FT (wX X Y mn) (wY X Y mn) n w h x y) (r : Int) : (RSB w h fr X Y n mn y x r ∨ r = rkP fr X Y n mn (y * 11 + x)) ↔ RSB w h fr X Y n mn y (x + 1) r := by
  have hk : (y * 11 + x) % 11 = x ∧ (y * 11 + x) / 11 = y := by omega
  constructor
  · rintro (⟨way, k, a1, a2, a3, a4, a5, a6, a7, e, hb⟩ | e)
    · exact ⟨way, k, a1, a2, a3, a4, a5, a6, a7, e, by omega⟩
    · exact ⟨mn, y * 11 + x, hm.1, hm.2, by omega, by omega, by omega, by omega, by rw [hk.1, hk.2]; exact hF, e, by omega⟩
  · rintro ⟨way, k, a1, a2, a3, a4, a5, a6, a7, e, hb⟩
    by_cases q : way < mn ∨ way = mn ∧ (k / 11 < y ∨ k / 11 = y ∧ k % 11 < x)
    · exact Or.inl ⟨way, k, a1, a2, a3, a4, a5, a6, a7, e, q⟩
    · have e1 : way = mn := by omega
      have e2 : k = y * 11 + x := by omega
      subst e1 e2
      exact Or.inr e
theorem RSB_n {w h n mn y x : Int} {fr : Int → Int → Int} {X Y : Int → Int} (hF : ¬ FT (wX X Y mn) (wY X Y mn) n w h x y) (r : Int) : RSB w h fr X Y n mn y x r ↔ RSB w h fr X Y n mn y (x + 1) r := by
  constructor
  · rintro ⟨way, k, a1, a2, a3, a4, a5, a6, a7, e, hb⟩
    exact ⟨way, k, a1, a2, a3, a4, a5, a6, a7, e, by omega⟩
  · rintro ⟨way, k, a1, a2, a3, a4, a5, a6, a7, e, hb⟩
    refine ⟨way, k, a1, a2, a3, a4, a5, a6, a7, e, ?_⟩
    by_cases q : way < mn ∨ way = mn ∧ (k / 11 < y ∨ k / 11 = y ∧ k % 11 < x)
    · exact q
    · have e1 : way = mn := by omega
      have e2 : k % 11 = x ∧ k / 11 = y := by omega
      subst e1
      rw [e2.1, e2.2] at a7
      exact absurd a7 hF
theorem RSB_row {w h n mn y x : Int} {fr : Int → Int → Int} {X Y : Int → Int} (hx : w ≤ x) (r : Int) : RSB w h fr X Y n mn y x r ↔ RSB w h fr X Y n mn (y + 1) 0 r := by
  constructor
  · rintro ⟨way, k, a1, a2, a3, a4, a5, a6, a7, e, hb⟩
    exact ⟨way, k, a1, a2, a3, a4, a5, a6, a7, e, by omega⟩
  · rintro ⟨way, k, a1, a2, a3, a4, a5, a6, a7, e, hb⟩
    exact ⟨way, k, a1, a2, a3, a4, a5, a6, a7, e, by omega⟩
theorem RSB_way {w h n mn y : Int} {fr : Int → Int → Int} {X Y : Int → Int} (hy : h ≤ y) (r : Int) : RSB w h fr X Y n mn y 0 r ↔ RSB w h fr X Y n (mn + 1) 0 0 r := by
  constructor
  · rintro ⟨way, k, a1, a2, a3, a4, a5, a6, a7, e, hb⟩
    exact ⟨way, k, a1, a2, a3, a4, a5, a6, a7, e, by omega⟩
  · rintro ⟨way, k, a1, a2, a3, a4, a5, a6, a7, e, hb⟩
    exact ⟨way, k, a1, a2, a3, a4, a5, a6, a7, e, by omega⟩
theorem RSB_0 {w h n : Int} {fr : Int → Int → Int} {X Y : Int → Int} (r : Int) : False ↔ RSB w h fr X Y n 0 0 0 r := by
  constructor
  · exact False.elim
  · rintro ⟨way, k, a1, a2, a3, a4, a5, a6, a7, e, hb⟩
    omega
theorem RSB_end {w h n mn y x : Int} {fr : Int → Int → Int} {X Y : Int → Int} (hm : 24 ≤ mn) (r : Int) : RSB w h fr X Y n mn y x r ↔ RS w h fr X Y n r := by
  constructor
  · rintro ⟨way, k, a1, a2, a3, a4, a5, a6, a7, e, hb⟩
    exact ⟨way, k, a1, a2, a3, a4, a5, a6, a7, e⟩
  · rintro ⟨way, k, a1, a2, a3, a4, a5, a6, a7, e⟩
    exact ⟨way, k, a1, a2, a3, a4, a5, a6, a7, e, by omega⟩
theorem FT_cong {P P' Q Q' : Int → Int} {n w h x y : Int} (hP : ∀ d : Int, 0 ≤ d → d < n → P d = P' d) (hQ : ∀ d : Int, 0 ≤ d → d < n → Q d = Q' d) : FT P Q n w h x y ↔ FT P' Q' n w h x y := by
  constructor
  · intro H d a b
    rw [← hP d a b, ← hQ d a b]
    exact H d a b
  · intro H d a b
    rw [hP d a b, hQ d a b]
    exact H d a b
