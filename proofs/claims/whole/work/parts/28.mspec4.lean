/-! ===== the reference's ranks, and those it chooses ===== -/
def FRr (N : Int → Int) : Int → Int → Int := fun a b => farS N (N 142) (N 143) a b
def RSN (wi hi : Int) (N : Int → Int) : Int → Prop := RS wi hi (FRr N) (XM N) (YM N) (N 141)
def RSK (w h : Int) (fr : Int → Int → Int) (X Y : Int → Int) (n mn K : Int) : Int → Prop := fun r => ∃ way k : Int, 0 ≤ way ∧ way < 24 ∧ 0 ≤ k ∧ k < 121 ∧ k % 11 < w ∧ k / 11 < h ∧ FT (wX X Y way) (wY X Y way) n w h (k % 11) (k / 11) ∧ r = rkP fr X Y n way k ∧ (way < mn ∨ way = mn ∧ k < K)
theorem RSK_s {w h n mn K : Int} {fr : Int → Int → Int} {X Y : Int → Int} (hm : 0 ≤ mn ∧ mn < 24) (hK : 0 ≤ K ∧ K < 121) (hw : K % 11 < w) (hh : K / 11 < h) (hF : FT (wX X Y mn) (wY X Y mn) n w h (K % 11) (K / 11)) (r : Int) : RSK w h fr X Y n mn (K + 1) r ↔ (RSK w h fr X Y n mn K r ∨ r = rkP fr X Y n mn K) := by
  constructor
  · rintro ⟨way, k, h1, h2, h3, h4, h5, h6, h7, h8, h9⟩
    by_cases e : way = mn ∧ k = K
    · right
      rw [h8, e.1, e.2]
    · left
      exact ⟨way, k, h1, h2, h3, h4, h5, h6, h7, h8, by omega⟩
  · rintro (⟨way, k, h1, h2, h3, h4, h5, h6, h7, h8, h9⟩ | h)
    · exact ⟨way, k, h1, h2, h3, h4, h5, h6, h7, h8, by omega⟩
    · exact ⟨mn, K, hm.1, hm.2, hK.1, hK.2, hw, hh, hF, h, by omega⟩
theorem RSK_n {w h n mn K : Int} {fr : Int → Int → Int} {X Y : Int → Int} (hn : ¬ (K % 11 < w ∧ K / 11 < h ∧ FT (wX X Y mn) (wY X Y mn) n w h (K % 11) (K / 11))) (r : Int) : RSK w h fr X Y n mn K r ↔ RSK w h fr X Y n mn (K + 1) r := by
  constructor
  · rintro ⟨way, k, h1, h2, h3, h4, h5, h6, h7, h8, h9⟩
    exact ⟨way, k, h1, h2, h3, h4, h5, h6, h7, h8, by omega⟩
  · rintro ⟨way, k, h1, h2, h3, h4, h5, h6, h7, h8, h9⟩
    by_cases e : way = mn ∧ k = K
    · rw [e.1, e.2] at h7
      rw [e.2] at h5 h6
      exact absurd ⟨h5, h6, h7⟩ hn
    · exact ⟨way, k, h1, h2, h3, h4, h5, h6, h7, h8, by omega⟩
theorem RSK_way {w h n mn K : Int} {fr : Int → Int → Int} {X Y : Int → Int} (hK : 121 ≤ K) (r : Int) : RSK w h fr X Y n mn K r ↔ RSK w h fr X Y n (mn + 1) 0 r := by
  constructor
  · rintro ⟨way, k, h1, h2, h3, h4, h5, h6, h7, h8, h9⟩
    exact ⟨way, k, h1, h2, h3, h4, h5, h6, h7, h8, by omega⟩
  · rintro ⟨way, k, h1, h2, h3, h4, h5, h6, h7, h8, h9⟩
    exact ⟨way, k, h1, h2, h3, h4, h5, h6, h7, h8, by omega⟩
theorem RSK_end {w h n mn K : Int} {fr : Int → Int → Int} {X Y : Int → Int} (hm : 24 ≤ mn) (r : Int) : RSK w h fr X Y n mn K r ↔ RS w h fr X Y n r := by
  constructor
  · rintro ⟨way, k, h1, h2, h3, h4, h5, h6, h7, h8, h9⟩
    exact ⟨way, k, h1, h2, h3, h4, h5, h6, h7, h8⟩
  · rintro ⟨way, k, h1, h2, h3, h4, h5, h6, h7, h8⟩
    exact ⟨way, k, h1, h2, h3, h4, h5, h6, h7, h8, by omega⟩
/-- a row's first m hold a set -/
def HLD (S : Int → Prop) (K : Int → Int) (m : Int) : Prop := ∀ r : Int, S r ↔ ∃ i : Int, 0 ≤ i ∧ i < m ∧ K i = r
theorem HLD_0 {w h n : Int} {fr : Int → Int → Int} {X Y K : Int → Int} : HLD (RSK w h fr X Y n 0 0) K 0 := by
  intro r
  constructor
  · rintro ⟨way, k, h1, h2, h3, h4, h5, h6, h7, h8, h9⟩
    omega
  · rintro ⟨i, i0, i1, -⟩
    omega
theorem HLD_iff {S S' : Int → Prop} {K : Int → Int} {m : Int} (h : ∀ r, S r ↔ S' r) (H : HLD S K m) : HLD S' K m := fun r => (h r).symm.trans (H r)
theorem HLD_add {S S' : Int → Prop} {K : Int → Int} {m v : Int} (hm : 0 ≤ m) (H : HLD S K m) (hS : ∀ r, S' r ↔ (S r ∨ r = v)) : HLD S' (zU K m v) (m + 1) := by
  intro r
  rw [hS r, H r]
  constructor
  · rintro (⟨i, i0, i1, i2⟩ | h)
    · exact ⟨i, i0, by omega, by rw [zU_ne _ _ (by omega)]; exact i2⟩
    · exact ⟨m, hm, by omega, by rw [zU_eq]; exact h.symm⟩
  · rintro ⟨i, i0, i1, i2⟩
    by_cases e : i = m
    · rw [e, zU_eq] at i2
      exact Or.inr i2.symm
    · rw [zU_ne _ _ e] at i2
      exact Or.inl ⟨i, i0, by omega, i2⟩
theorem RSN_rng {wi hi : Int} {N : Int → Int} (hN : MOK wi hi N) : RNG (RSN wi hi N) := by
  obtain ⟨nW, nH, n1, nO, nn, nX, nY, nM, nC, nT⟩ := hN
  exact RS_rng (by omega) (fun u v _ _ _ _ => ⟨farS_nn (by omega), by have := farS_c N (N 142) (N 143) u v; show farS N (N 142) (N 143) u v ≤ 99; omega⟩)
def APT (a k : Int) (C : Int → Int) (i : Int) : Prop := ∀ j : Int, 0 ≤ j → j < i → apk a k (C j)
theorem APT_1 {a k i : Int} {C : Int → Int} (H : APT a k C i) (h : apk a k (C i)) : APT a k C (i + 1) := by
  intro j a b
  by_cases e : j = i
  · rw [e]; exact h
  · exact H j a (by omega)
theorem APT_0 {a k i : Int} {C : Int → Int} (hi : 0 ≤ i) (h : ¬ apk a k (C i)) : ¬ APT a k C (i + 1) := fun z => h (z i hi (by omega))
theorem APT_00 {a k i : Int} {C : Int → Int} (h : ¬ APT a k C i) : ¬ APT a k C (i + 1) := fun z => h (fun j a b => z j a (by omega))
theorem APT_le {a k i t : Int} {C : Int → Int} (h : t ≤ i) (H : APT a k C i) : APT a k C t := fun j a b => H j a (by omega)
theorem APT_z {a k i t v : Int} {C : Int → Int} (h : i ≤ t) : APT a k (zU C t v) i ↔ APT a k C i := by
  constructor
  · intro H j a b
    have := H j a b
    rw [zU_ne _ _ (by omega)] at this
    exact this
  · intro H j a b
    rw [zU_ne _ _ (by omega)]
    exact H j a b
/-- each is the least behind those ahead of it and apart from them -/
def CHP (S : Int → Prop) (a : Int) (H : Int → Int) (m : Int) : Prop := ∀ t : Int, 0 ≤ t → t < m → S (H t) ∧ (∀ j : Int, 0 ≤ j → j < t → H j < H t) ∧ APT a (H t % 121) H t ∧ ∀ r : Int, S r → (∀ j : Int, 0 ≤ j → j < t → H j < r) → APT a (r % 121) H t → H t ≤ r
def CHO (S : Int → Prop) (a : Int) (H : Int → Int) (m : Int) : Prop := 0 ≤ m ∧ m ≤ 10 ∧ CHP S a H m ∧ (m = 10 ∨ ∀ r : Int, S r → (∀ j : Int, 0 ≤ j → j < m → H j < r) → ¬ APT a (r % 121) H m)
def MNP (K : Int → Int) (z a : Int) (H : Int → Int) (c i b : Int) : Prop := (∀ q : Int, 0 ≤ q → q < i → z < K q → APT a (K q % 121) H c → b ≤ K q) ∧ (b = 2147483647 ∨ ∃ q : Int, 0 ≤ q ∧ q < i ∧ K q = b ∧ z < b ∧ APT a (b % 121) H c)
theorem MNP_0 (K : Int → Int) (z a : Int) (H : Int → Int) (c : Int) : MNP K z a H c 0 2147483647 := ⟨fun q a b => by omega, Or.inl rfl⟩
theorem MNP_new {K H : Int → Int} {z a c i b : Int} (hi : 0 ≤ i) (h1 : z < K i) (h2 : K i < b) (h3 : APT a (K i % 121) H c) (M : MNP K z a H c i b) : MNP K z a H c (i + 1) (K i) := by
  refine ⟨fun q q0 q1 q2 q3 => ?_, Or.inr ⟨i, hi, by omega, rfl, h1, h3⟩⟩
  by_cases e : q = i
  · rw [e]; omega
  · have := M.1 q q0 (by omega) q2 q3
    omega
theorem MNP_old {K H : Int → Int} {z a c i b : Int} (hn : z < K i → K i < b → ¬ APT a (K i % 121) H c) (M : MNP K z a H c i b) : MNP K z a H c (i + 1) b := by
  obtain ⟨m1, m2⟩ := M
  refine ⟨fun q q0 q1 q2 q3 => ?_, ?_⟩
  · by_cases e : q = i
    · rw [e] at q2 q3 ⊢
      by_cases e2 : K i < b
      · exact absurd q3 (hn q2 e2)
      · omega
    · exact m1 q q0 (by omega) q2 q3
  · rcases m2 with h | ⟨q, q0, q1, q2⟩
    · exact Or.inl h
    · exact Or.inr ⟨q, q0, by omega, q2⟩
def LST (z : Int) (H : Int → Int) (c : Int) : Prop := (c = 0 ∧ z = -1) ∨ (0 < c ∧ z = H (c - 1))
theorem LST_lt {S : Int → Prop} {a z c r : Int} {H : Int → Int} (hz : LST z H c) (hr : 0 ≤ r) (P : CHP S a H c) : (∀ j : Int, 0 ≤ j → j < c → H j < r) ↔ z < r := by
  rcases hz with ⟨h1, h2⟩ | ⟨h1, h2⟩
  · exact ⟨fun _ => by omega, fun _ j a b => by omega⟩
  · constructor
    · intro h
      rw [h2]
      exact h (c - 1) (by omega) (by omega)
    · intro h j j0 j1
      by_cases e : j = c - 1
      · rw [e]; omega
      · have := (P (c - 1) (by omega) (by omega)).2.1 j j0 (by omega)
        omega
theorem CHP_s {S : Int → Prop} {a z c m b : Int} {H K : Int → Int} (hc : 0 ≤ c) (hR : RNG S) (hL : HLD S K m) (hM : MNP K z a H c m b) (hb : ¬ b = 2147483647) (hz : LST z H c) (P : CHP S a H c) : CHP S a (zU H c b) (c + 1) := by
  obtain ⟨m1, m2⟩ := hM
  rcases m2 with h | ⟨q, q0, q1, q2, q3, q4⟩
  · exact absurd h hb
  have hS : S b := (hL b).mpr ⟨q, q0, q1, q2⟩
  have hb0 := hR b hS
  intro t t0 t1
  by_cases e : t = c
  · rw [e, zU_eq]
    refine ⟨hS, fun j j0 j1 => ?_, (APT_z (by omega)).mpr q4, fun r r1 r2 r3 => ?_⟩
    · rw [zU_ne _ _ (by omega)]
      exact (LST_lt hz hb0.1 P).mpr q3 j j0 j1
    · obtain ⟨i, i0, i1, i2⟩ := (hL r).mp r1
      have h9 : z < r := (LST_lt hz (hR r r1).1 P).mp (fun j j0 j1 => by have := r2 j j0 j1; rw [zU_ne _ _ (by omega)] at this; exact this)
      have := m1 i i0 i1 (by rw [i2]; exact h9) (by rw [i2]; exact (APT_z (by omega)).mp r3)
      omega
  · rw [zU_ne _ _ e]
    obtain ⟨p1, p2, p3, p4⟩ := P t t0 (by omega)
    refine ⟨p1, fun j j0 j1 => ?_, (APT_z (by omega)).mpr p3, fun r r1 r2 r3 => p4 r r1 (fun j j0 j1 => ?_) ((APT_z (by omega)).mp r3)⟩
    · rw [zU_ne _ _ (by omega)]; exact p2 j j0 j1
    · have := r2 j j0 j1
      rw [zU_ne _ _ (by omega)] at this
      exact this
theorem CHO_end {S : Int → Prop} {a z c m : Int} {H K : Int → Int} (hc : 0 ≤ c ∧ c ≤ 10) (hR : RNG S) (hL : HLD S K m) (hM : MNP K z a H c m 2147483647) (hz : LST z H c) (P : CHP S a H c) : CHO S a H c := by
  refine ⟨hc.1, hc.2, P, Or.inr fun r r1 r2 r3 => ?_⟩
  obtain ⟨i, i0, i1, i2⟩ := (hL r).mp r1
  have h0 := hR r r1
  have h9 : z < r := (LST_lt hz h0.1 P).mp r2
  have := hM.1 i i0 i1 (by rw [i2]; exact h9) (by rw [i2]; exact r3)
  omega
theorem CHO_TOP {S : Int → Prop} {H : Int → Int} {m : Int} (h : CHO S 0 H m) : TOP S H m := by
  obtain ⟨h1, h2, h3, h4⟩ := h
  have hA : ∀ (k i : Int), APT 0 k H i := fun k i j _ _ => by
    show 0 ≤ ab _ + ab _
    unfold ab
    omega
  refine ⟨h1, h2, fun i j a b c => (h3 j (by omega) c).2.1 i a b, fun i a b => (h3 i a b).1, fun r hr => ?_⟩
  have key : ∀ t : Nat, (t : Int) ≤ m → (∀ j : Int, 0 ≤ j → j < t → H j < r) ∨ ∃ i : Int, 0 ≤ i ∧ i < m ∧ H i = r := by
    intro t
    induction t with
    | zero => intro _; exact Or.inl (fun j a b => by omega)
    | succ t ih =>
      intro ht
      rcases ih (by omega) with z | z
      · have := (h3 t (by omega) (by omega)).2.2.2 r hr z (hA _ _)
        by_cases e : H t = r
        · exact Or.inr ⟨t, by omega, by omega, e⟩
        · left
          intro j a b
          by_cases q : j = t
          · rw [q]; omega
          · exact z j a (by omega)
      · exact Or.inr z
  rcases key m.toNat (by omega) with z | z
  · have z' : ∀ j : Int, 0 ≤ j → j < m → H j < r := fun j a b => z j a (by omega)
    rcases h4 with q | q
    · exact Or.inr ⟨q, z' 9 (by decide) (by omega)⟩
    · exact absurd (hA _ _) (q r hr z')
  · exact Or.inl z
theorem CHP_lt {S : Int → Prop} {a m r : Int} {H : Int → Int} (ha : 1 ≤ a) (P : CHP S a H m) (hr : S r) : ∀ t : Nat, (t : Int) ≤ m → APT a (r % 121) H t → ∀ j : Int, 0 ≤ j → j < t → H j < r := by
  intro t
  induction t with
  | zero => intro _ _ j a b; omega
  | succ t ih =>
    intro ht hA j j0 j1
    have h1 := ih (by omega) (APT_le (by omega) hA)
    by_cases e : j = t
    · rw [e]
      have h2 := (P t (by omega) (by omega)).2.2.2 r hr h1 (APT_le (by omega) hA)
      have h3 : ¬ H t = r := fun z => by
        have h4 := hA t (by omega) (by omega)
        rw [← z] at h4
        exact apk_self ha h4
      omega
    · exact h1 j j0 (by omega)
theorem CHO_SPR {S : Int → Prop} {a m : Int} {H : Int → Int} (ha : 1 ≤ a) (h : CHO S a H m) : SPR S a H m := by
  obtain ⟨h1, h2, h3, h4⟩ := h
  refine ⟨h1, h2, fun i i0 i1 => ⟨(h3 i i0 i1).1, (h3 i i0 i1).2.2.1, fun r hr hA => ?_⟩, ?_⟩
  · have hA' : APT a (r % 121) H ((i.toNat : Nat) : Int) := by rw [show ((i.toNat : Nat) : Int) = i by omega]; exact hA
    exact (h3 i i0 i1).2.2.2 r hr (fun j j0 j1 => CHP_lt ha h3 hr i.toNat (by omega) hA' j j0 (by omega)) hA
  · rcases h4 with q | q
    · exact Or.inl q
    · refine Or.inr fun r hr hA => ?_
      have hA' : APT a (r % 121) H ((m.toNat : Nat) : Int) := by rw [show ((m.toNat : Nat) : Int) = m by omega]; exact hA
      exact q r hr (fun j j0 j1 => CHP_lt ha h3 hr m.toNat (by omega) hA' j j0 (by omega)) hA
/-! ===== the reference takes ===== -/
def tlN (N : Int → Int) (r0 rch : Int) : Int → Int := tdF N (N 142) (LXM N (prt r0 2) (prt r0 3) (prt r0 4)) (LYM N (prt r0 2) (prt r0 3) (prt r0 4)) (N 141) (prt r0 0) (prt r0 1) rch
theorem tlN_01 (N : Int → Int) (r0 rch k : Int) : tlN N r0 rch k = 0 ∨ tlN N r0 rch k = 1 := tdF_01 _ _ _ _ _ _ _ _ _
def tkC (G N : Int → Int) (i : Int) : Int → Int := fun j => if 0 ≤ j ∧ j < i ∧ G j = 1 then 0 else N j
theorem tkC_0 (G N : Int → Int) : tkC G N 0 = N := by
  funext j
  exact if_neg (by omega)
theorem tkC_hi {G N : Int → Int} {i j : Int} (h : i ≤ j) : tkC G N i j = N j := if_neg (by omega)
theorem tkC_1 {G N : Int → Int} {i : Int} (hi : 0 ≤ i) (h : G i = 1) : zU (tkC G N i) i 0 = tkC G N (i + 1) := by
  funext j
  unfold zU tkC
  by_cases e : j = i
  · rw [if_pos e, if_pos ⟨by omega, by omega, by rw [e]; exact h⟩]
  · rw [if_neg e]
    by_cases q : 0 ≤ j ∧ j < i ∧ G j = 1
    · rw [if_pos q, if_pos ⟨q.1, by omega, q.2.2⟩]
    · rw [if_neg q, if_neg (fun z => q ⟨z.1, by omega, z.2.2⟩)]
theorem tkC_n {G N : Int → Int} {i : Int} (hi : 0 ≤ i) (h : ¬ G i = 1) : zU (tkC G N i) i (tkC G N i i) = tkC G N (i + 1) := by
  funext j
  unfold zU
  by_cases e : j = i
  · rw [if_pos e, e]
    unfold tkC
    rw [if_neg (by omega), if_neg (fun z => h z.2.2)]
  · rw [if_neg e]
    unfold tkC
    by_cases q : 0 ≤ j ∧ j < i ∧ G j = 1
    · rw [if_pos q, if_pos ⟨q.1, by omega, q.2.2⟩]
    · rw [if_neg q, if_neg (fun z => q ⟨z.1, by omega, z.2.2⟩)]
theorem td_at {E E' P P' Q Q' : Int → Int} {m m' n n' x y z k : Int} (h1 : E k = E' k) (hm : m = m') (hn : n = n') (hP : ∀ d : Int, 0 ≤ d → d < n → P d = P' d) (hQ : ∀ d : Int, 0 ≤ d → d < n → Q d = Q' d) : tdF E m P Q n x y z k = tdF E' m' P' Q' n' x y z k := by
  subst hm hn
  unfold tdF
  rw [h1, nrI_cong hP hQ]
theorem td_tk {N G : Int → Int} {k x y s t q z : Int} (hk : 0 ≤ k ∧ k < 121) : tdF (tkC G N k) (tkC G N k 142) (LXM (tkC G N k) s t q) (LYM (tkC G N k) s t q) (tkC G N k 141) x y z k = tdF N (N 142) (LXM N s t q) (LYM N s t q) (N 141) x y z k := by
  refine td_at (tkC_hi (by omega)) (tkC_hi (by omega)) (tkC_hi (by omega)) (fun d a b => ?_) (fun d a b => ?_)
  · unfold LXM; rw [tkC_hi (by omega), tkC_hi (by omega)]
  · unfold LYM; rw [tkC_hi (by omega), tkC_hi (by omega)]
theorem MOK_tk {wi hi i : Int} {N G : Int → Int} (hi0 : i ≤ 121) (H : MOK wi hi N) : MOK wi hi (tkC G N i) := by
  obtain ⟨nW, nH, n1, nO, nn, nX, nY, nM, nC, nT⟩ := H
  refine ⟨nW, nH, fun k a b => ?_, fun k a b c => ?_, by rw [tkC_hi (by omega)]; exact nn, fun d a b => by rw [tkC_hi (by omega)]; exact nX d a b, fun d a b => by rw [tkC_hi (by omega)]; exact nY d a b, by rw [tkC_hi (by omega)]; exact nM, by rw [tkC_hi (by omega)]; exact nC, by rw [tkC_hi (by omega)]; exact nT⟩
  · unfold tkC; split
    · exact Or.inl rfl
    · exact n1 k a b
  · unfold tkC; split
    · rfl
    · exact nO k a b c
/-- a row of the ledger -/
def ldC (Lg : Int → Int) (b r0 i : Int) : Int → Int := fun j => if 7 * b ≤ j ∧ j < 7 * b + i then prt r0 (j - 7 * b) else Lg j
theorem ldC_0 (Lg : Int → Int) (b r0 : Int) : ldC Lg b r0 0 = Lg := by
  funext j
  exact if_neg (by omega)
theorem ldC_s (Lg : Int → Int) {b r0 i : Int} (hi : 0 ≤ i) : zU (ldC Lg b r0 i) (7 * b + i) (prt r0 i) = ldC Lg b r0 (i + 1) := by
  funext j
  unfold zU ldC
  by_cases e : j = 7 * b + i
  · rw [if_pos e, if_pos (by omega), show j - 7 * b = i by omega]
  · rw [if_neg e]
    by_cases q : 7 * b ≤ j ∧ j < 7 * b + i
    · rw [if_pos q, if_pos (by omega)]
    · rw [if_neg q, if_neg (by omega)]
abbrev MST : Type := (Int → Int) × (Int → Int) × Int × Int × (Int → Int)
def TMO (wi hi rch ill : Int) (N : Int → Int) (r0 mn : Int) : Prop := ∃ (T : Int → Int) (q : Int), TOP (RSN wi hi N) T q ∧ 0 < q ∧ r0 = T 0 ∧ prt r0 5 ≤ ill ∧ mn = sI (tlN N r0 rch) 121 ∧ ¬ mn = 0
def TMX (wi hi rch ill : Int) (N : Int → Int) : Prop := ∃ (T : Int → Int) (q : Int), TOP (RSN wi hi N) T q ∧ (q = 0 ∨ ill < prt (T 0) 5 ∨ sI (tlN N (T 0) rch) 121 = 0)
def stM (rch r0 mn : Int) : MST → MST
  | (N, Cg, ca, cm, Lg) => (zU (tkC (tlN N r0 rch) N 121) 144 (N 144 + 1), cpC N Cg ca 145, (ca + 1) % 6, min (cm + 1) 6, zU (ldC Lg (N 144) r0 6) (7 * N 144 + 6) mn)
theorem MOK_144 {wi hi v : Int} {N : Int → Int} (hv : 0 ≤ v ∧ v ≤ 8) (H : MOK wi hi N) : MOK wi hi (zU N 144 v) := by
  obtain ⟨nW, nH, n1, nO, nn, nX, nY, nM, nC, nT⟩ := H
  exact ⟨nW, nH, fun k a b => by rw [zU_ne _ _ (by omega)]; exact n1 k a b, fun k a b c => by rw [zU_ne _ _ (by omega)]; exact nO k a b c, by rw [zU_ne _ _ (by omega)]; exact nn, fun d a b => by rw [zU_ne _ _ (by omega)]; exact nX d a b, fun d a b => by rw [zU_ne _ _ (by omega)]; exact nY d a b, by rw [zU_ne _ _ (by omega)]; exact nM, by rw [zU_ne _ _ (by omega)]; exact nC, by rw [zU_eq]; exact hv⟩
/-- taken again and again -/
def TMS (wi hi rch ill : Int) (s : MST) (t : Nat) (R : Nat → MST) (A M : Nat → Int) : Prop := R 0 = s ∧ ∀ i : Nat, i < t → TMO wi hi rch ill (R i).1 (A i) (M i) ∧ (R i).1 144 < 8 ∧ R (i + 1) = stM rch (A i) (M i) (R i)
theorem TMS_s {wi hi rch ill r0 mn : Int} {s : MST} {t : Nat} {R : Nat → MST} {A M : Nat → Int} (H : TMS wi hi rch ill s t R A M) (h1 : TMO wi hi rch ill (R t).1 r0 mn) (h2 : (R t).1 144 < 8) : TMS wi hi rch ill s (t + 1) (sqU R (t + 1) (stM rch r0 mn (R t))) (sqU A t r0) (sqU M t mn) := by
  obtain ⟨a1, a2⟩ := H
  refine ⟨?_, fun i hi => ?_⟩
  · unfold sqU; rw [if_neg (by omega)]; exact a1
  · by_cases e : i = t
    · subst e
      unfold sqU
      rw [if_neg (by omega), if_pos rfl, if_pos rfl, if_pos rfl]
      exact ⟨h1, h2, rfl⟩
    · unfold sqU
      rw [if_neg (by omega), if_neg e, if_neg e, if_neg (by omega)]
      exact a2 i (by omega)
