theorem T_fault {len r r' td2 w2 h2 rw2 n2 m2 c2 : Int} {L Tx Xr Yr f2 X2 Y2 : Int → Int} (hT : TXT len L Tx) (hX : RDX Xr Yr) (p1 : (r, (td2, w2, h2, rw2, f2, n2, X2, Y2, m2, c2)) = rdA (ltr L len) len Xr Yr) {V : PSt → Prop} (p2 : ∃ S9 : PSt, (r', S9) = rdA (ltr Tx len) len Xr Yr ∧ V S9) : r = r' ∧ RDX X2 Y2 := by
  obtain ⟨S9, h1, -⟩ := p2
  rw [← TXT_ltr hT, ← p1] at h1
  exact ⟨(congrArg Prod.fst h1).symm, (RDX_rd hX p1).2⟩
section
variable {w h n m c nx hz bs fs rs fo cc cb fw fh r r' : Int} {f X Y bz rk gn N Cg Lg D T Fp Ch : Int → Int} {gs : Int → SCT}
theorem T_lay {len td2 w2 h2 rw2 n2 m2 c2 w5 h5 n5 m5 c5 hz5 bs5 sc tn fl sc5 tn5 fl5 fs5 rs5 nr2 wi2 hi2 cm2 sc2 qu2 fp2 : Int} {L Tx Xr Yr f2 X2 Y2 f5 X5 Y5 N2 : Int → Int} (hT : TXT len L Tx) (hX : RDX Xr Yr) (hL : LKO sc tn fl) (H : CRL w h f X Y n m c nx hz bz gs bs rk gn N Cg Lg) (hF : FOK fs w h f m c D fw fh) (hK : ROK rs w h f X Y n m c T fo Fp Ch cc cb)
    (p1 : ∃ q : Int, (q, (td2, w2, h2, rw2, f2, n2, X2, Y2, m2, c2)) = rdA (ltr L len) len Xr Yr ∧ ((q = -4 ∧ td2 = 1 ∧ ¬ n2 = 0 ∧ r = sI (fun k => popI (f2 k)) 11 ∧ (w5 = w2 ∧ h5 = h2 ∧ f5 = f2 ∧ X5 = X2 ∧ Y5 = Y2 ∧ n5 = n2 ∧ m5 = m2 ∧ c5 = c2) ∧ hz5 = 0 ∧ bs5 = 0 ∧ sc5 = 2 ∧ tn5 = 0 ∧ fl5 = 0 ∧ fs5 = 1 ∧ rs5 = 1) ∨ (¬ (q = -4 ∧ td2 = 1 ∧ ¬ n2 = 0) ∧ r = -2 ∧ (w5 = w ∧ h5 = h ∧ f5 = f ∧ X5 = X ∧ Y5 = Y ∧ n5 = n ∧ m5 = m ∧ c5 = c) ∧ hz5 = hz ∧ bs5 = bs ∧ sc5 = sc ∧ tn5 = tn ∧ fl5 = fl ∧ fs5 = fs ∧ rs5 = rs)))
    (p2 : ∃ (q9 td2 w2 h2 rw2 : Int) (f2 : Int → Int) (n2 : Int) (X2 Y2 : Int → Int) (m2 c2 : Int), (q9, (td2, w2, h2, rw2, f2, n2, X2, Y2, m2, c2)) = rdA (ltr Tx len) len Xr Yr ∧ ((q9 = -4 ∧ td2 = 1 ∧ ¬ n2 = 0 ∧ wi2 = w2 ∧ hi2 = h2 ∧ (∃ k9 : Int, PRL wi2 hi2 nr2 N2 k9 (td2, w2, h2, rw2, f2, n2, X2, Y2, m2, c2)) ∧ cm2 = 0 ∧ sc2 = 2 ∧ qu2 = 0 ∧ fp2 = 0 ∧ r' = sI N2 121) ∨ (¬ (q9 = -4 ∧ td2 = 1 ∧ ¬ n2 = 0) ∧ r' = -2 ∧ wi2 = w ∧ hi2 = h ∧ N2 = N ∧ cm2 = hz ∧ sc2 = sc ∧ qu2 = tn ∧ fp2 = fl))) :
    r = r' ∧ (wi2 = w5 ∧ hi2 = h5 ∧ sc2 = sc5 ∧ qu2 = tn5 ∧ fp2 = fl5) ∧ RDX X2 Y2 ∧ LKO sc5 tn5 fl5 ∧ OUT w5 h5 f5 X5 Y5 n5 m5 c5 nx hz5 bz gs bs5 rk gn N2 Cg Lg nx cm2 fs5 D fw fh rs5 T fo Fp Ch cc cb := by
  obtain ⟨q, e1, p1⟩ := p1
  obtain ⟨q9, td9, w9, h9, rw9, f9, n9, X9, Y9, m9, c9, e2, p2⟩ := p2
  obtain ⟨hok, hX2⟩ := RDX_rd hX e1
  rw [← TXT_ltr hT, ← e1] at e2
  obtain ⟨e3, e4⟩ := Prod.mk.inj e2
  obtain ⟨i1, e4⟩ := Prod.mk.inj e4
  obtain ⟨i2, e4⟩ := Prod.mk.inj e4
  obtain ⟨i3, e4⟩ := Prod.mk.inj e4
  obtain ⟨i4, e4⟩ := Prod.mk.inj e4
  obtain ⟨i5, e4⟩ := Prod.mk.inj e4
  obtain ⟨i6, e4⟩ := Prod.mk.inj e4
  obtain ⟨i7, e4⟩ := Prod.mk.inj e4
  obtain ⟨i8, e4⟩ := Prod.mk.inj e4
  obtain ⟨i9, i10⟩ := Prod.mk.inj e4
  subst e3 i1 i2 i3 i4 i5 i6 i7 i8 i9 i10
  rcases p1 with ⟨a1, a2, a3, a4, ⟨b1, b2, b3, b4, b5, b6, b7, b8⟩, d1, d2, d3, d4, d5, d6, d7⟩ | ⟨a1, a4, ⟨b1, b2, b3, b4, b5, b6, b7, b8⟩, d1, d2, d3, d4, d5, d6, d7⟩ <;> rcases p2 with ⟨g1, g2, g3, g4, g5, ⟨k9, g6⟩, g7, g8, g9, g10, g11⟩ | ⟨g1, g2, g3, g4, g5, g6, g7, g8, g9⟩
  · subst a2
    obtain ⟨hR2, hS2, hN2⟩ := RSM_lay hok g6 a3
    have hE := RSM_edges hS2 hR2
    rw [a4, g11, b1, b2, b3, b4, b5, b6, b7, b8, d1, d2, d3, d4, d5, d6, d7, g4, g5, g7, g8, g9, g10]
    exact ⟨hE.symm, ⟨rfl, rfl, rfl, rfl, rfl⟩, hX2, ⟨Or.inl rfl, by decide, Or.inl rfl⟩, rfl, rfl, ⟨hS2, hN2, hR2, H.2.2.2.1, by decide, by decide, 0, by decide, fun j j0 j1 => absurd j1 (by omega), fun j j0 j1 => absurd j1 (by omega)⟩, FOK_1 _ _ _ _ _ _ _ _, ROK_1 hK⟩
  · exact absurd ⟨a1, a2, a3⟩ g1
  · exact absurd ⟨g1, g2, g3⟩ a1
  · rw [a4, g2, b1, b2, b3, b4, b5, b6, b7, b8, d1, d2, d3, d4, d5, d6, d7, g3, g4, g5, g6, g7, g8, g9]
    exact ⟨rfl, ⟨rfl, rfl, rfl, rfl, rfl⟩, hX2, hL, rfl, rfl, H, hF, hK⟩
theorem A_count {len sc tn fl q : Int} (H : CRL w h f X Y n m c nx hz bz gs bs rk gn N Cg Lg) (h1 : r = (if q = 0 then w else if q = 1 then h else if q = 2 then sI (fun k => popI (f k)) 11 else if q = 3 then n else if q = 4 then m else if q = 5 then c else if q = 6 then hz else if q = 7 then len else if q = 8 then sc else if q = 9 then tn else if q = 10 then fl else -1)) (h2 : r' = (if q = 0 then w else if q = 1 then h else if q = 2 then sI N 121 else if q = 3 then N 141 else if q = 4 then N 142 else if q = 5 then N 143 else if q = 6 then hz else if q = 7 then len else if q = 8 then sc else if q = 9 then tn else if q = 10 then fl else -1)) : r = r' := by
  have hR := H.2.2.1
  rw [h1, h2, RSM_edges H.1 hR, hR.2.1, hR.2.2.2.1, hR.2.2.2.2.1]
theorem CRL_nx (H : CRL w h f X Y n m c nx hz bz gs bs rk gn N Cg Lg) : nx = 0 ∨ nx = 1 ∨ nx = 2 ∨ nx = 3 ∨ nx = 4 ∨ nx = 5 := by
  have := H.2.2.2.1
  omega
theorem CRL_rk (H : CRL w h f X Y n m c nx hz bz gs bs rk gn N Cg Lg) : ∀ j : Int, 0 ≤ j → j < bs → 0 ≤ rk j ∧ rk j ≤ 2147483647 := by
  obtain ⟨hS, hN, hR, hx, hz', hb, M, hM, hH, hB⟩ := H
  intro j a b
  have := (hB j a (by omega)).2.2
  omega
theorem A_led {i q : Int} (H : CRL w h f X Y n m c nx hz bz gs bs rk gn N Cg Lg) (h1 : r = if -1 ≤ i ∧ 0 ≤ q ∧ q ≤ 6 then (if 0 ≤ i ∧ i < bs ∧ q = 6 then gn i else pOf rk bs i q) else -1) (h2 : r' = if -1 ≤ i ∧ 0 ≤ q ∧ q ≤ 6 then (if i = -1 then N 144 else if 0 ≤ i ∧ i < N 144 then Lg (7 * i + q) else -4) else -1) : r = r' := by
  obtain ⟨hS, hN, hR, hx, hz', hb, M, hM, hH, hB⟩ := H
  exact A_ledger hM.1 hR.2.2.2.2.2 hB h1 h2
theorem U_take {rch ill nx2 hz2 bs2 ca2 cm2 : Int} {f2 bz2 rk2 gn2 N2 C2 L2 : Int → Int} {gs2 : Int → SCT} {V : Prop} (H : CRL w h f X Y n m c nx hz bz gs bs rk gn N Cg Lg)
    (p1 : (r = -1 ∧ ¬ V ∧ f2 = f ∧ ((nx2, hz2, bz2, gs2, bs2, rk2, gn2) : HST) = (nx, hz, bz, gs, bs, rk, gn)) ∨ (V ∧ ((r = -3 ∧ bs = 8 ∧ f2 = f ∧ ((nx2, hz2, bz2, gs2, bs2, rk2, gn2) : HST) = (nx, hz, bz, gs, bs, rk, gn)) ∨ (bs < 8 ∧ ((r = -2 ∧ TKX w h X Y n m c rch ill f ∧ f2 = f ∧ (nx2, hz2, bz2, gs2, bs2, rk2, gn2) = ((nx, hz, bz, gs, bs, rk, gn) : HST)) ∨ (0 < r ∧ ∃ r0 : Int, TKO w h X Y n m c rch ill f f2 r0 r ∧ ((nx2, hz2, bz2, gs2, bs2, rk2, gn2) : HST) = stC w h X Y n m c f r0 r (nx, hz, bz, gs, bs, rk, gn)))))))
    (p2 : (r' = -1 ∧ ¬ V ∧ ((N2, C2, ca2, cm2, L2) : MST) = (N, Cg, nx, hz, Lg)) ∨ (V ∧ ((r' = -3 ∧ N 144 = 8 ∧ ((N2, C2, ca2, cm2, L2) : MST) = (N, Cg, nx, hz, Lg)) ∨ (N 144 < 8 ∧ ((r' = -2 ∧ TMX w h rch ill N ∧ ((N2, C2, ca2, cm2, L2) : MST) = (N, Cg, nx, hz, Lg)) ∨ (0 < r' ∧ r' ≤ 121 ∧ ∃ r0 : Int, TMO w h rch ill N r0 r' ∧ ((N2, C2, ca2, cm2, L2) : MST) = stM rch r0 r' (N, Cg, nx, hz, Lg))))))) : r = r' ∧ ca2 = nx2 ∧ cm2 = hz2 ∧ CRL w h f2 X Y n m c nx2 hz2 bz2 gs2 bs2 rk2 gn2 N2 C2 L2 :=
  T_take (a := (nx, hz, bz, gs, bs, rk, gn)) (b := (N, Cg, nx, hz, Lg)) (a2 := (nx2, hz2, bz2, gs2, bs2, rk2, gn2)) (b2 := (N2, C2, ca2, cm2, L2)) ⟨rfl, rfl, H⟩ p1 p2
theorem U_takes {rch ill nx2 hz2 bs2 ca2 cm2 : Int} {f2 bz2 rk2 gn2 N2 C2 L2 : Int → Int} {gs2 : Int → SCT} {V : Prop} (H : CRL w h f X Y n m c nx hz bz gs bs rk gn N Cg Lg)
    (p1 : (r = -1 ∧ ¬ V ∧ f2 = f ∧ ((nx2, hz2, bz2, gs2, bs2, rk2, gn2) : HST) = (nx, hz, bz, gs, bs, rk, gn)) ∨ (V ∧ ∃ (t9 : Nat) (F9 : Nat → Int → Int) (R9 M9 : Nat → Int), TKS w h X Y n m c rch ill f t9 F9 R9 M9 ∧ f2 = F9 t9 ∧ ((nx2, hz2, bz2, gs2, bs2, rk2, gn2) : HST) = itC w h X Y n m c F9 R9 M9 t9 (nx, hz, bz, gs, bs, rk, gn) ∧ (t9 : Int) = r ∧ ((r = 8 - bs ∨ TKX w h X Y n m c rch ill f2) ∧ r ≤ 8 - bs)))
    (p2 : (r' = -1 ∧ ¬ V ∧ ((N2, C2, ca2, cm2, L2) : MST) = (N, Cg, nx, hz, Lg)) ∨ (V ∧ TMR w h rch ill (N, Cg, nx, hz, Lg) (N2, C2, ca2, cm2, L2) r' ∧ (r' = 8 ∨ N2 144 = 8 ∨ TMX w h rch ill N2))) : r = r' ∧ ca2 = nx2 ∧ cm2 = hz2 ∧ CRL w h f2 X Y n m c nx2 hz2 bz2 gs2 bs2 rk2 gn2 N2 C2 L2 :=
  T_takes (a := (nx, hz, bz, gs, bs, rk, gn)) (b := (N, Cg, nx, hz, Lg)) (a2 := (nx2, hz2, bz2, gs2, bs2, rk2, gn2)) (b2 := (N2, C2, ca2, cm2, L2)) ⟨rfl, rfl, H⟩ p1 p2
end
