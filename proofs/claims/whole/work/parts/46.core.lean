/-! ===== all that both sides keep; taken, taken again ===== -/
def CRL (w h : Int) (f X Y : Int → Int) (n m c nx hz : Int) (bz : Int → Int) (gs : Int → SCT) (bs : Int) (rk gn : Int → Int) (N Cg Lg : Int → Int) : Prop :=
  SOK w h f X Y n m c ∧ MOK w h N ∧ RSM w h f X Y n m c bs N ∧ (0 ≤ nx ∧ nx ≤ 5) ∧ (0 ≤ hz ∧ hz ≤ 6) ∧ (0 ≤ bs ∧ bs ≤ 8) ∧ ∃ M : Int, (bs ≤ M ∧ M ≤ 8) ∧ HRL w h M nx hz bz gs Cg ∧ BKR M rk gn Lg
def CRT (w h : Int) (X Y : Int → Int) (n m c : Int) (f : Int → Int) : HST → MST → Prop
  | (nx, hz, bz, gs, bs, rk, gn), (N, Cg, ca, cm, Lg) => ca = nx ∧ cm = hz ∧ CRL w h f X Y n m c nx hz bz gs bs rk gn N Cg Lg
section
variable {w h n m c rch ill : Int} {X Y f : Int → Int} {a : HST} {b : MST}
theorem CRT_RSM (H : CRT w h X Y n m c f a b) : RSM w h f X Y n m c a.2.2.2.2.1 b.1 ∧ 0 ≤ n ∧ b.1 144 = a.2.2.2.2.1 ∧ 0 ≤ a.2.2.2.2.1 ∧ a.2.2.2.2.1 ≤ 8 := by
  obtain ⟨nx, hz, bz, gs, bs, rk, gn⟩ := a
  obtain ⟨N, Cg, ca, cm, Lg⟩ := b
  obtain ⟨e1, e2, hS, hN, hR, hx, hz', hb, M, hM, hH, hB⟩ := H
  have hsn := hS.2.2.2.2.1
  exact ⟨hR, by omega, hR.2.2.2.2.2, hb.1, hb.2⟩
theorem CRT_step {r0 mn r0' mn' : Int} {f2 : Int → Int} (H : CRT w h X Y n m c f a b) (h1 : TKO w h X Y n m c rch ill f f2 r0 mn) (h2 : TMO w h rch ill b.1 r0' mn') (h8 : b.1 144 < 8) : (r0' = r0 ∧ mn' = mn) ∧ CRT w h X Y n m c f2 (stC w h X Y n m c f r0 mn a) (stM rch r0' mn' b) := by
  obtain ⟨nx, hz, bz, gs, bs, rk, gn⟩ := a
  obtain ⟨N, Cg, ca, cm, Lg⟩ := b
  obtain ⟨e1, e2, hS, hN, hR, hx, hz', hb, M, hM, hH, hB⟩ := H
  have h8 : N 144 < 8 := h8
  have hsn := hS.2.2.2.2.1
  have hc := hS.2.2.2.2.2.2.2.2
  have h144 : N 144 = bs := hR.2.2.2.2.2
  have h2 : TMO w h rch ill N r0' mn' := h2
  obtain ⟨g1, g2⟩ := TM_TK (by omega) hR h2 h1
  obtain ⟨T, q, t1, t2, t3, t4, t5, t6, t7⟩ := h1
  have hr : 0 ≤ r0 ∧ r0 < 2147483647 := by
    rw [t3]
    exact RNG_w (RSc_rng ⟨by omega, by omega⟩ ⟨by omega, by omega⟩) (t1.2.2.2.1 0 (by decide) t2)
  clear t1 h2
  refine ⟨⟨g1, g2⟩, ?_⟩
  rw [g1, g2, t7]
  subst e1
  subst e2
  have hB2 := BKR_take (mn := mn) hb.1 hr hM.1 hB
  rw [← h144] at hB2
  exact ⟨rfl, rfl, SOK_tk (tlF_01 _ _ _ _ _ _ _) hS, MOK_144 ⟨by omega, by omega⟩ (MOK_tk (by decide) hN), RSM_take hS hR, ⟨by omega, by omega⟩, ⟨by omega, by omega⟩, ⟨by omega, by omega⟩, max M (N 144 + 1), ⟨by omega, by omega⟩, HRL_le (by omega) (HRL_push hx ⟨rfl, rfl, hS, hN, hR, hb.1, hM.1⟩ hH), by rw [← h144]; exact hB2⟩
theorem stC_bs (w h : Int) (X Y : Int → Int) (n m c : Int) (f : Int → Int) (r0 mn : Int) (a : HST) : (stC w h X Y n m c f r0 mn a).2.2.2.2.1 = a.2.2.2.2.1 + 1 := rfl
theorem CRT_it {t u : Nat} {F : Nat → Int → Int} {R0 M : Nat → Int} {Rm : Nat → MST} {A Mm : Nat → Int} (k1 : TKS w h X Y n m c rch ill f t F R0 M) (l1 : TMS w h rch ill b u Rm A Mm) (H : CRT w h X Y n m c f a b) : ∀ i : Nat, i ≤ t → i ≤ u → CRT w h X Y n m c (F i) (itC w h X Y n m c F R0 M i a) (Rm i) ∧ (itC w h X Y n m c F R0 M i a).2.2.2.2.1 = a.2.2.2.2.1 + i := by
  intro i
  induction i with
  | zero =>
    intro _ _
    rw [k1.1, l1.1]
    exact ⟨H, by show _ = _ + (0 : Int); rw [Int.add_zero]; rfl⟩
  | succ i ih =>
    intro z1 z2
    obtain ⟨K1, K2⟩ := ih (by omega) (by omega)
    obtain ⟨m1, m2, m3⟩ := l1.2 i (by omega)
    rw [m3, itC]
    refine ⟨(CRT_step K1 (k1.2 i (by omega)) m1 m2).2, ?_⟩
    rw [stC_bs, K2]
    omega
theorem T_take {V : Prop} {f2 : Int → Int} {a2 : HST} {b2 : MST} {r r' : Int} (H : CRT w h X Y n m c f a b) (p1 : (r = -1 ∧ ¬ V ∧ f2 = f ∧ a2 = a) ∨ (V ∧ ((r = -3 ∧ a.2.2.2.2.1 = 8 ∧ f2 = f ∧ a2 = a) ∨ (a.2.2.2.2.1 < 8 ∧ ((r = -2 ∧ TKX w h X Y n m c rch ill f ∧ f2 = f ∧ a2 = a) ∨ (0 < r ∧ ∃ r0 : Int, TKO w h X Y n m c rch ill f f2 r0 r ∧ a2 = stC w h X Y n m c f r0 r a))))))
    (p2 : (r' = -1 ∧ ¬ V ∧ b2 = b) ∨ (V ∧ ((r' = -3 ∧ b.1 144 = 8 ∧ b2 = b) ∨ (b.1 144 < 8 ∧ ((r' = -2 ∧ TMX w h rch ill b.1 ∧ b2 = b) ∨ (0 < r' ∧ r' ≤ 121 ∧ ∃ r0 : Int, TMO w h rch ill b.1 r0 r' ∧ b2 = stM rch r0 r' b)))))) : r = r' ∧ CRT w h X Y n m c f2 a2 b2 := by
  obtain ⟨hR, hn, h144, hb0, hb8⟩ := CRT_RSM H
  rcases p1 with ⟨x1, x2, x3, x4⟩ | ⟨x1, x2⟩
  · rcases p2 with ⟨y1, y2, y3⟩ | ⟨y1, -⟩
    · rw [x1, y1, x3, x4, y3]
      exact ⟨rfl, H⟩
    · exact absurd y1 x2
  · rcases p2 with ⟨y1, y2, y3⟩ | ⟨-, y2⟩
    · exact absurd x1 y2
    · rcases x2 with ⟨x1, x2, x3, x4⟩ | ⟨x1, x2⟩
      · rcases y2 with ⟨y1, y2, y3⟩ | ⟨y1, -⟩
        · rw [x1, y1, x3, x4, y3]
          exact ⟨rfl, H⟩
        · omega
      · rcases y2 with ⟨y1, y2, y3⟩ | ⟨y1, y2⟩
        · clear x2
          omega
        · rcases x2 with ⟨x2, x3, x4, x5⟩ | ⟨x2, r0, x3, x4⟩
          · rcases y2 with ⟨y2, y3, y4⟩ | ⟨y2, -, q0, y3, y4⟩
            · rw [x2, y2, x4, x5, y4]
              exact ⟨rfl, H⟩
            · exact (TM_X hn hR y3 x3).elim
          · rcases y2 with ⟨y2, y3, y4⟩ | ⟨y2, -, q0, y3, y4⟩
            · exact (TX_K hn hR y3 x3).elim
            · obtain ⟨⟨g1, g2⟩, g3⟩ := CRT_step H x3 y3 y1
              rw [x4, y4]
              exact ⟨g2.symm, g3⟩
theorem T_takes {V : Prop} {f2 : Int → Int} {a2 : HST} {b2 : MST} {r r' : Int} (H : CRT w h X Y n m c f a b) (p1 : (r = -1 ∧ ¬ V ∧ f2 = f ∧ a2 = a) ∨ (V ∧ ∃ (t9 : Nat) (F9 : Nat → Int → Int) (R9 M9 : Nat → Int), TKS w h X Y n m c rch ill f t9 F9 R9 M9 ∧ f2 = F9 t9 ∧ a2 = itC w h X Y n m c F9 R9 M9 t9 a ∧ (t9 : Int) = r ∧ ((r = 8 - a.2.2.2.2.1 ∨ TKX w h X Y n m c rch ill f2) ∧ r ≤ 8 - a.2.2.2.2.1)))
    (p2 : (r' = -1 ∧ ¬ V ∧ b2 = b) ∨ (V ∧ TMR w h rch ill b b2 r' ∧ (r' = 8 ∨ b2.1 144 = 8 ∨ TMX w h rch ill b2.1))) : r = r' ∧ CRT w h X Y n m c f2 a2 b2 := by
  rcases p1 with ⟨x1, x2, x3, x4⟩ | ⟨x1, t, F, R0, M, k1, k2, k3, k4, k5, k6⟩
  · rcases p2 with ⟨y1, y2, y3⟩ | ⟨y1, -⟩
    · rw [x1, y1, x3, x4, y3]
      exact ⟨rfl, H⟩
    · exact absurd y1 x2
  · rcases p2 with ⟨y1, y2, y3⟩ | ⟨-, ⟨u, Rm, A, Mm, l1, l2, l3⟩, l4⟩
    · exact absurd x1 y2
    · have key := CRT_it k1 l1 H
      have hb0 := (CRT_RSM H).2.2.2.1
      have htu : t = u := by
        rcases Nat.lt_trichotomy t u with z | z | z
        · exfalso
          obtain ⟨K1, K2⟩ := key t (Nat.le_refl t) (by omega)
          obtain ⟨m1, m2, m3⟩ := l1.2 t z
          obtain ⟨hR, hn, h144, -, hb8⟩ := CRT_RSM K1
          rcases k5 with e | e
          · omega
          · exact TM_X hn hR m1 (k2 ▸ e)
        · exact z
        · exfalso
          obtain ⟨K1, K2⟩ := key u (by omega) (Nat.le_refl u)
          have m1 := k1.2 u z
          obtain ⟨hR, hn, h144, -, hb8⟩ := CRT_RSM K1
          rw [l2] at l4
          rcases l4 with e | e | e
          · clear m1
            omega
          · omega
          · exact TX_K hn hR e m1
      subst htu
      refine ⟨by omega, ?_⟩
      rw [k2, k3, l2]
      exact (key t (Nat.le_refl t) (Nat.le_refl t)).1
end
