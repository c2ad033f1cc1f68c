/-! ===== each call: the same answer, and all kept ===== -/
def TXT (len : Int) (L Tx : Int → Int) : Prop := (0 ≤ len ∧ len ≤ 200) ∧ (∀ k : Int, 0 ≤ k → k < len → L k = Tx k) ∧ (∀ k : Int, 0 ≤ k → k < 200 → 0 ≤ L k ∧ L k ≤ 65535) ∧ ∀ k : Int, 0 ≤ k → k < 200 → 0 ≤ Tx k ∧ Tx k ≤ 65535
def RDX (X Y : Int → Int) : Prop := (∀ d : Int, 0 ≤ d → d < 10 → -5 ≤ X d ∧ X d ≤ 5) ∧ ∀ d : Int, 0 ≤ d → d < 10 → -5 ≤ Y d ∧ Y d ≤ 5
def FAB (Fa : Int → Int) : Prop := ∀ k : Int, 0 ≤ k → k < 121 → -2147483648 ≤ Fa k ∧ Fa k ≤ 2147483647
theorem TXT_ltr {len : Int} {L Tx : Int → Int} (H : TXT len L Tx) : ltr L len = ltr Tx len := by
  funext k
  unfold ltr
  by_cases e : 0 ≤ k ∧ k < len
  · rw [if_pos e, if_pos e, H.2.1 k e.1 e.2]
  · rw [if_neg e, if_neg e]
theorem TXT_w {len x : Int} {L Tx : Int → Int} (hx : 32 ≤ x ∧ x ≤ 126) (hl : len < 200) (H : TXT len L Tx) : TXT (len + 1) (zU L len x) (zU Tx len x) := by
  obtain ⟨h1, h2, h3, h4⟩ := H
  refine ⟨by omega, fun k a b => ?_, fun k a b => ?_, fun k a b => ?_⟩
  · by_cases e : k = len
    · rw [e, zU_eq, zU_eq]
    · rw [zU_ne _ _ e, zU_ne _ _ e]
      exact h2 k a (by omega)
  · by_cases e : k = len
    · rw [e, zU_eq]; omega
    · rw [zU_ne _ _ e]; exact h3 k a b
  · by_cases e : k = len
    · rw [e, zU_eq]; omega
    · rw [zU_ne _ _ e]; exact h4 k a b
theorem TXT_0 {len : Int} {L Tx : Int → Int} (H : TXT len L Tx) : TXT 0 L Tx := ⟨by decide, fun k a b => absurd b (by omega), H.2.2.1, H.2.2.2⟩
theorem T_write {x len len2 lm2 r r' : Int} {L L2 Tx T2 : Int → Int} (H : TXT len L Tx) (p1 : (¬ (32 ≤ x ∧ x ≤ 126) ∧ r = -1 ∧ L2 = L ∧ len2 = len) ∨ (32 ≤ x ∧ x ≤ 126 ∧ len = 200 ∧ r = -3 ∧ L2 = L ∧ len2 = len) ∨ (32 ≤ x ∧ x ≤ 126 ∧ len < 200 ∧ r = len + 1 ∧ L2 = zU L len x ∧ len2 = len + 1))
    (p2 : (¬ (32 ≤ x ∧ x ≤ 126) ∧ r' = -1 ∧ T2 = Tx ∧ lm2 = len) ∨ (32 ≤ x ∧ x ≤ 126 ∧ len = 200 ∧ r' = -3 ∧ T2 = Tx ∧ lm2 = len) ∨ (32 ≤ x ∧ x ≤ 126 ∧ len < 200 ∧ r' = len + 1 ∧ T2 = zU Tx len x ∧ lm2 = len + 1)) : r = r' ∧ lm2 = len2 ∧ TXT len2 L2 T2 := by
  rcases p1 with ⟨a1, a2, a3, a4⟩ | ⟨a1, a2, a3, a4, a5, a6⟩ | ⟨a1, a2, a3, a4, a5, a6⟩ <;> rcases p2 with ⟨b1, b2, b3, b4⟩ | ⟨b1, b2, b3, b4, b5, b6⟩ | ⟨b1, b2, b3, b4, b5, b6⟩
  · rw [a3, a4, b3]; exact ⟨by omega, by omega, H⟩
  · omega
  · omega
  · omega
  · rw [a5, a6, b5]; exact ⟨by omega, by omega, H⟩
  · omega
  · omega
  · omega
  · rw [a5, a6, b5]; exact ⟨by omega, by omega, TXT_w ⟨a1, a2⟩ a3 H⟩
theorem RDX_rd {lt : Int → Int} {len : Int} {Xr Yr : Int → Int} {q td w h rw' n m c : Int} {f X Y : Int → Int} (H : RDX Xr Yr) (e : (q, (td, w, h, rw', f, n, X, Y, m, c)) = rdA lt len Xr Yr) : PSok (td, w, h, rw', f, n, X, Y, m, c) ∧ RDX X Y := by
  have h1 : PSok (rdA lt len Xr Yr).2 := prs_ok _ _ _ (PSok_0 H.1 H.2)
  rw [← e] at h1
  exact ⟨h1, h1.2.2.2.2.2.2.2.1, h1.2.2.2.2.2.2.2.2.1⟩
theorem FOK_1 (w h : Int) (f : Int → Int) (m c : Int) (D : Int → Int) (fw fh : Int) : FOK 1 w h f m c D fw fh := ⟨Or.inr rfl, fun z => absurd z (by decide)⟩
theorem ROK_1 {rs w h n m c fo cc cb w' h' n' m' c' : Int} {f X Y T Fp Ch f' X' Y' : Int → Int} (H : ROK rs w h f X Y n m c T fo Fp Ch cc cb) : ROK 1 w' h' f' X' Y' n' m' c' T fo Fp Ch cc cb := ⟨Or.inr rfl, H.2.1, fun z => absurd z (by decide)⟩
section
variable {w h n m c nx hz bs fs rs fo cc cb fw fh r r' : Int} {f X Y bz rk gn N Cg Lg D T Fp Ch : Int → Int} {gs : Int → SCT}
theorem CRL_chg {n2 m2 c2 : Int} {f2 X2 Y2 N2 : Int → Int} (H : CRL w h f X Y n m c nx hz bz gs bs rk gn N Cg Lg) (hS2 : SOK w h f2 X2 Y2 n2 m2 c2) (hN2 : MOK w h N2) (hR2 : RSM w h f2 X2 Y2 n2 m2 c2 bs N2) : CRL w h f2 X2 Y2 n2 m2 c2 ((nx + 1) % 6) (min (hz + 1) 6) (zU bz nx bs) (upS gs nx (w, h, f, X, Y, n, m, c)) bs rk gn N2 (cpC N Cg nx 145) Lg := by
  obtain ⟨hS, hN, hR, hx, hz', hb, M, hM, hH, hB⟩ := H
  exact ⟨hS2, hN2, hR2, by omega, by omega, hb, M, hM, HRL_push hx ⟨rfl, rfl, hS, hN, hR, hb.1, hM.1⟩ hH, hB⟩
def OUT (w h : Int) (f X Y : Int → Int) (n m c nx hz : Int) (bz : Int → Int) (gs : Int → SCT) (bs : Int) (rk gn N Cg Lg : Int → Int) (ca cm fs : Int) (D : Int → Int) (fw fh rs : Int) (T : Int → Int) (fo : Int) (Fp Ch : Int → Int) (cc cb : Int) : Prop :=
  ca = nx ∧ cm = hz ∧ CRL w h f X Y n m c nx hz bz gs bs rk gn N Cg Lg ∧ FOK fs w h f m c D fw fh ∧ ROK rs w h f X Y n m c T fo Fp Ch cc cb
theorem chgK {n2 m2 c2 nx2 hz2 fs2 rs2 ca2 cm2 : Int} {f2 X2 Y2 N2 bz2 C2 : Int → Int} {gs2 : Int → SCT} (H : CRL w h f X Y n m c nx hz bz gs bs rk gn N Cg Lg) (hK : ROK rs w h f X Y n m c T fo Fp Ch cc cb) (h1 : CHG nx hz bz gs bs (w, h, f, X, Y, n, m, c) nx2 hz2 bz2 gs2 fs2 rs2) (h2 : MCH N Cg nx hz C2 ca2 cm2) (hS2 : SOK w h f2 X2 Y2 n2 m2 c2) (hN2 : MOK w h N2) (hR2 : RSM w h f2 X2 Y2 n2 m2 c2 bs N2) : OUT w h f2 X2 Y2 n2 m2 c2 nx2 hz2 bz2 gs2 bs rk gn N2 C2 Lg ca2 cm2 fs2 D fw fh rs2 T fo Fp Ch cc cb := by
  obtain ⟨a1, a2, a3, a4, a5, a6⟩ := h1
  obtain ⟨b1, b2, b3⟩ := h2
  rw [a1, a2, a3, a4, a5, a6, b1, b2, b3]
  exact ⟨rfl, rfl, CRL_chg H hS2 hN2 hR2, FOK_1 _ _ _ _ _ _ _ _, ROK_1 hK⟩
theorem samK {nx2 hz2 fs2 rs2 ca2 cm2 : Int} {N2 bz2 C2 : Int → Int} {gs2 : Int → SCT} (H : CRL w h f X Y n m c nx hz bz gs bs rk gn N Cg Lg) (hF : FOK fs w h f m c D fw fh) (hK : ROK rs w h f X Y n m c T fo Fp Ch cc cb) (h1 : SAM nx hz bz gs fs rs nx2 hz2 bz2 gs2 fs2 rs2) (h2 : MSA N Cg nx hz N2 C2 ca2 cm2) : OUT w h f X Y n m c nx2 hz2 bz2 gs2 bs rk gn N2 C2 Lg ca2 cm2 fs2 D fw fh rs2 T fo Fp Ch cc cb := by
  obtain ⟨a1, a2, a3, a4, a5, a6⟩ := h1
  obtain ⟨b1, b2, b3, b4⟩ := h2
  rw [a1, a2, a3, a4, a5, a6, b1, b2, b3, b4]
  exact ⟨rfl, rfl, H, hF, hK⟩
theorem eA_N {x y : Int} (hS : SOK w h f X Y n m c) (hR : RSM w h f X Y n m c bs N) (hin : 0 ≤ x ∧ x < w ∧ 0 ≤ y ∧ y < h) : N (11 * y + x) = eA w h f x y := by
  obtain ⟨sW, sH, -⟩ := hS
  rw [hR.1 _ (by omega) (by omega)]
  unfold EE
  rw [show (11 * y + x) % 11 = x by omega, show (11 * y + x) / 11 = y by omega]
theorem T_edge {x y q nx2 hz2 fs2 rs2 ca2 cm2 : Int} {f2 N2 bz2 C2 : Int → Int} {gs2 : Int → SCT} (H : CRL w h f X Y n m c nx hz bz gs bs rk gn N Cg Lg) (hF : FOK fs w h f m c D fw fh) (hK : ROK rs w h f X Y n m c T fo Fp Ch cc cb)
    (p1 : (r = -1 ∧ ¬ ((0 ≤ x ∧ x < w ∧ 0 ≤ y ∧ y < h) ∧ 0 ≤ q ∧ q ≤ 1) ∧ f2 = f ∧ SAM nx hz bz gs fs rs nx2 hz2 bz2 gs2 fs2 rs2) ∨ (r = -2 ∧ ((0 ≤ x ∧ x < w ∧ 0 ≤ y ∧ y < h) ∧ 0 ≤ q ∧ q ≤ 1) ∧ eA w h f x y = q ∧ f2 = f ∧ SAM nx hz bz gs fs rs nx2 hz2 bz2 gs2 fs2 rs2) ∨ (((0 ≤ x ∧ x < w ∧ 0 ≤ y ∧ y < h) ∧ 0 ≤ q ∧ q ≤ 1) ∧ ¬ eA w h f x y = q ∧ f2 = zU f y (xoI (f y) (2 ^ x.toNat)) ∧ CHG nx hz bz gs bs (w, h, f, X, Y, n, m, c) nx2 hz2 bz2 gs2 fs2 rs2 ∧ r = sI (fun k => popI (f2 k)) 11))
    (p2 : (r' = -1 ∧ ¬ ((0 ≤ x ∧ x < w ∧ 0 ≤ y ∧ y < h) ∧ 0 ≤ q ∧ q ≤ 1) ∧ MSA N Cg nx hz N2 C2 ca2 cm2) ∨ (r' = -2 ∧ ((0 ≤ x ∧ x < w ∧ 0 ≤ y ∧ y < h) ∧ 0 ≤ q ∧ q ≤ 1) ∧ N (11 * y + x) = q ∧ MSA N Cg nx hz N2 C2 ca2 cm2) ∨ (((0 ≤ x ∧ x < w ∧ 0 ≤ y ∧ y < h) ∧ 0 ≤ q ∧ q ≤ 1) ∧ ¬ N (11 * y + x) = q ∧ N2 = zU N (11 * y + x) q ∧ MCH N Cg nx hz C2 ca2 cm2 ∧ r' = sI N2 121)) : r = r' ∧ OUT w h f2 X Y n m c nx2 hz2 bz2 gs2 bs rk gn N2 C2 Lg ca2 cm2 fs2 D fw fh rs2 T fo Fp Ch cc cb := by
  have hS := H.1
  have hN := H.2.1
  have hR := H.2.2.1
  rcases p1 with ⟨a1, a2, a3, a4⟩ | ⟨a1, a2, a3, a4, a5⟩ | ⟨a1, a2, a3, a4, a5⟩ <;> rcases p2 with ⟨b1, b2, b3⟩ | ⟨b1, b2, b3, b4⟩ | ⟨b1, b2, b3, b4, b5⟩
  · rw [a1, b1, a3]; exact ⟨rfl, samK H hF hK a4 b3⟩
  · exact absurd b2 a2
  · exact absurd b1 a2
  · exact absurd a2 b2
  · rw [a1, b1, a4]; exact ⟨rfl, samK H hF hK a5 b4⟩
  · exact absurd ((eA_N hS hR a2.1).trans a3) b2
  · exact absurd a1 b2
  · exact absurd ((eA_N hS hR a1.1).symm.trans b3) a2
  · have hS2 := SOK_fl a1.1 hS
    have hR2 := RSM_edge hS a1.1 a1.2 a2 hR
    rw [← a3] at hS2 hR2
    rw [← b3] at hR2
    have hN2 := MOK_edge a1.1 a1.2 hN
    rw [← b3] at hN2
    exact ⟨by rw [a5, b5]; exact (RSM_edges hS2 hR2).symm, chgK H hK a4 b4 hS2 hN2 hR2⟩
theorem T_dot {x y n2 nx2 hz2 fs2 rs2 ca2 cm2 : Int} {X2 Y2 N2 bz2 C2 : Int → Int} {gs2 : Int → SCT} (H : CRL w h f X Y n m c nx hz bz gs bs rk gn N Cg Lg) (hF : FOK fs w h f m c D fw fh) (hK : ROK rs w h f X Y n m c T fo Fp Ch cc cb)
    (p1 : (r = -1 ∧ ¬ (-5 ≤ x ∧ x ≤ 5 ∧ -5 ≤ y ∧ y ≤ 5) ∧ (X2 = X ∧ Y2 = Y ∧ n2 = n) ∧ SAM nx hz bz gs fs rs nx2 hz2 bz2 gs2 fs2 rs2) ∨ (r = -2 ∧ (-5 ≤ x ∧ x ≤ 5 ∧ -5 ≤ y ∧ y ≤ 5) ∧ (∃ d : Int, 0 ≤ d ∧ d < n ∧ X d = x ∧ Y d = y) ∧ (X2 = X ∧ Y2 = Y ∧ n2 = n) ∧ SAM nx hz bz gs fs rs nx2 hz2 bz2 gs2 fs2 rs2) ∨ ((-5 ≤ x ∧ x ≤ 5 ∧ -5 ≤ y ∧ y ≤ 5) ∧ (∀ d : Int, 0 ≤ d → d < n → ¬ (X d = x ∧ Y d = y)) ∧ ((n = 10 ∧ r = -3 ∧ (X2 = X ∧ Y2 = Y ∧ n2 = n) ∧ SAM nx hz bz gs fs rs nx2 hz2 bz2 gs2 fs2 rs2) ∨ (n < 10 ∧ r = n ∧ (X2 = zU X n x ∧ Y2 = zU Y n y ∧ n2 = n + 1) ∧ CHG nx hz bz gs bs (w, h, f, X, Y, n, m, c) nx2 hz2 bz2 gs2 fs2 rs2))))
    (p2 : (r' = -1 ∧ ¬ (-5 ≤ x ∧ x ≤ 5 ∧ -5 ≤ y ∧ y ≤ 5) ∧ MSA N Cg nx hz N2 C2 ca2 cm2) ∨ (r' = -2 ∧ (-5 ≤ x ∧ x ≤ 5 ∧ -5 ≤ y ∧ y ≤ 5) ∧ (∃ d : Int, 0 ≤ d ∧ d < N 141 ∧ N (121 + d) = x ∧ N (131 + d) = y) ∧ MSA N Cg nx hz N2 C2 ca2 cm2) ∨ ((-5 ≤ x ∧ x ≤ 5 ∧ -5 ≤ y ∧ y ≤ 5) ∧ (∀ d : Int, 0 ≤ d → d < N 141 → ¬ (N (121 + d) = x ∧ N (131 + d) = y)) ∧ ((N 141 = 10 ∧ r' = -3 ∧ MSA N Cg nx hz N2 C2 ca2 cm2) ∨ (N 141 < 10 ∧ r' = N 141 ∧ N2 = cnR N x y ∧ MCH N Cg nx hz C2 ca2 cm2)))) : r = r' ∧ OUT w h f X2 Y2 n2 m c nx2 hz2 bz2 gs2 bs rk gn N2 C2 Lg ca2 cm2 fs2 D fw fh rs2 T fo Fp Ch cc cb := by
  have hS := H.1
  have hN := H.2.1
  have hR := H.2.2.1
  have e141 : N 141 = n := hR.2.1
  have hsn : 1 ≤ n ∧ n ≤ 10 := hS.2.2.2.2.1
  have hd := hR.2.2.1
  rw [e141] at p2
  rcases p1 with ⟨a1, a2, ⟨a3, a4, a5⟩, a6⟩ | ⟨a1, a2, ⟨d, d0, d1, d2, d3⟩, ⟨a3, a4, a5⟩, a6⟩ | ⟨a1, a2, a3⟩ <;> rcases p2 with ⟨b1, b2, b3⟩ | ⟨b1, b2, ⟨u, u0, u1, u2, u3⟩, b4⟩ | ⟨b1, b2, b3⟩
  · rw [a1, b1, a3, a4, a5]; exact ⟨rfl, samK H hF hK a6 b3⟩
  · exact absurd b2 a2
  · exact absurd b1 a2
  · exact absurd a2 b2
  · rw [a1, b1, a3, a4, a5]; exact ⟨rfl, samK H hF hK a6 b4⟩
  · exact absurd ⟨(hd d d0 d1).1.trans d2, (hd d d0 d1).2.trans d3⟩ (b2 d d0 d1)
  · exact absurd a1 b2
  · exact absurd ⟨(hd u u0 u1).1.symm.trans u2, (hd u u0 u1).2.symm.trans u3⟩ (a2 u u0 u1)
  · rcases a3 with ⟨c1, c2, ⟨c3, c4, c5⟩, c6⟩ | ⟨c1, c2, ⟨c3, c4, c5⟩, c6⟩ <;> rcases b3 with ⟨g1, g2, g3⟩ | ⟨g1, g2, g3, g4⟩
    · rw [c2, g2, c3, c4, c5]; exact ⟨rfl, samK H hF hK c6 g3⟩
    · omega
    · omega
    · rw [c2, g2, c3, c4, c5]
      refine ⟨rfl, ?_⟩
      have hR2 := RSM_dot (x := x) (y := y) ⟨by omega, c1⟩ hR
      have hN2 := MOK_dot ⟨a1.1, a1.2.1⟩ a1.2.2 (by omega) hN
      rw [← g3] at hR2 hN2
      obtain ⟨s1, s2, s3, s4, s5, s6, s7, s8, s9⟩ := hS
      exact chgK H hK c6 g4 ⟨s1, s2, s3, s4, by omega, zU_bd s6 ⟨a1.1, a1.2.1⟩, zU_bd s7 a1.2.2, s8, s9⟩ hN2 hR2
theorem rmI_bd {X : Int → Int} {d n : Int} (hn : n ≤ 10) (hd : 0 ≤ d) (h : ∀ k : Int, 0 ≤ k → k < 10 → -5 ≤ X k ∧ X k ≤ 5) : ∀ k : Int, 0 ≤ k → k < 10 → -5 ≤ rmI X d n k ∧ rmI X d n k ≤ 5 := by
  intro k a b
  unfold rmI
  split
  · exact h _ (by omega) (by omega)
  · exact h k a b
theorem T_drop {d n2 nx2 hz2 fs2 rs2 ca2 cm2 : Int} {X2 Y2 N2 bz2 C2 : Int → Int} {gs2 : Int → SCT} (H : CRL w h f X Y n m c nx hz bz gs bs rk gn N Cg Lg) (hF : FOK fs w h f m c D fw fh) (hK : ROK rs w h f X Y n m c T fo Fp Ch cc cb)
    (p1 : (r = -1 ∧ ¬ (0 ≤ d ∧ d < n) ∧ (X2 = X ∧ Y2 = Y ∧ n2 = n) ∧ SAM nx hz bz gs fs rs nx2 hz2 bz2 gs2 fs2 rs2) ∨ (r = -2 ∧ (0 ≤ d ∧ d < n) ∧ n = 1 ∧ (X2 = X ∧ Y2 = Y ∧ n2 = n) ∧ SAM nx hz bz gs fs rs nx2 hz2 bz2 gs2 fs2 rs2) ∨ ((0 ≤ d ∧ d < n) ∧ ¬ n = 1 ∧ r = n - 1 ∧ (X2 = rmI X d n ∧ Y2 = rmI Y d n ∧ n2 = n - 1) ∧ CHG nx hz bz gs bs (w, h, f, X, Y, n, m, c) nx2 hz2 bz2 gs2 fs2 rs2))
    (p2 : (r' = -1 ∧ ¬ (0 ≤ d ∧ d < N 141) ∧ MSA N Cg nx hz N2 C2 ca2 cm2) ∨ (r' = -2 ∧ (0 ≤ d ∧ d < N 141) ∧ N 141 = 1 ∧ MSA N Cg nx hz N2 C2 ca2 cm2) ∨ ((0 ≤ d ∧ d < N 141) ∧ ¬ N 141 = 1 ∧ r' = N 141 - 1 ∧ N2 = drN N d (N 141 - 1) ∧ MCH N Cg nx hz C2 ca2 cm2)) : r = r' ∧ OUT w h f X2 Y2 n2 m c nx2 hz2 bz2 gs2 bs rk gn N2 C2 Lg ca2 cm2 fs2 D fw fh rs2 T fo Fp Ch cc cb := by
  have hS := H.1
  have hN := H.2.1
  have hR := H.2.2.1
  have e141 : N 141 = n := hR.2.1
  have hsn : 1 ≤ n ∧ n ≤ 10 := hS.2.2.2.2.1
  rcases p1 with ⟨a1, a2, ⟨a3, a4, a5⟩, a6⟩ | ⟨a1, a2, a0, ⟨a3, a4, a5⟩, a6⟩ | ⟨a1, a2, a0, ⟨a3, a4, a5⟩, a6⟩ <;> rcases p2 with ⟨b1, b2, b3⟩ | ⟨b1, b2, b3, b4⟩ | ⟨b1, b2, b3, b4, b5⟩
  · rw [a1, b1, a3, a4, a5]; exact ⟨rfl, samK H hF hK a6 b3⟩
  · omega
  · omega
  · omega
  · rw [a1, b1, a3, a4, a5]; exact ⟨rfl, samK H hF hK a6 b4⟩
  · omega
  · omega
  · omega
  · have hR2 := RSM_drop hsn a1 hR
    have hN2 := MOK_drop b1 b2 hN
    rw [← b4] at hR2 hN2
    rw [a0, b3, a3, a4, a5, e141]
    obtain ⟨s1, s2, s3, s4, s5, s6, s7, s8, s9⟩ := hS
    exact ⟨rfl, chgK H hK a6 b5 ⟨s1, s2, s3, s4, by omega, rmI_bd hsn.2 a1.1 s6, rmI_bd hsn.2 a1.1 s7, s8, s9⟩ hN2 hR2⟩
theorem T_measure {x y m2 c2 nx2 hz2 fs2 rs2 ca2 cm2 : Int} {N2 bz2 C2 : Int → Int} {gs2 : Int → SCT} (H : CRL w h f X Y n m c nx hz bz gs bs rk gn N Cg Lg) (hF : FOK fs w h f m c D fw fh) (hK : ROK rs w h f X Y n m c T fo Fp Ch cc cb)
    (p1 : (r = -1 ∧ ¬ (0 ≤ x ∧ x ≤ 2 ∧ 1 ≤ y ∧ y ≤ 99) ∧ (m2 = m ∧ c2 = c) ∧ SAM nx hz bz gs fs rs nx2 hz2 bz2 gs2 fs2 rs2) ∨ (r = -2 ∧ (0 ≤ x ∧ x ≤ 2 ∧ 1 ≤ y ∧ y ≤ 99) ∧ (m = x ∧ c = y) ∧ (m2 = m ∧ c2 = c) ∧ SAM nx hz bz gs fs rs nx2 hz2 bz2 gs2 fs2 rs2) ∨ ((0 ≤ x ∧ x ≤ 2 ∧ 1 ≤ y ∧ y ≤ 99) ∧ ¬ (m = x ∧ c = y) ∧ r = 100 * m + c ∧ (m2 = x ∧ c2 = y) ∧ CHG nx hz bz gs bs (w, h, f, X, Y, n, m, c) nx2 hz2 bz2 gs2 fs2 rs2))
    (p2 : (r' = -1 ∧ ¬ (0 ≤ x ∧ x ≤ 2 ∧ 1 ≤ y ∧ y ≤ 99) ∧ MSA N Cg nx hz N2 C2 ca2 cm2) ∨ (r' = -2 ∧ (0 ≤ x ∧ x ≤ 2 ∧ 1 ≤ y ∧ y ≤ 99) ∧ (N 142 = x ∧ N 143 = y) ∧ MSA N Cg nx hz N2 C2 ca2 cm2) ∨ ((0 ≤ x ∧ x ≤ 2 ∧ 1 ≤ y ∧ y ≤ 99) ∧ ¬ (N 142 = x ∧ N 143 = y) ∧ r' = 100 * N 142 + N 143 ∧ N2 = zU (zU N 142 x) 143 y ∧ MCH N Cg nx hz C2 ca2 cm2)) : r = r' ∧ OUT w h f X Y n m2 c2 nx2 hz2 bz2 gs2 bs rk gn N2 C2 Lg ca2 cm2 fs2 D fw fh rs2 T fo Fp Ch cc cb := by
  have hS := H.1
  have hN := H.2.1
  have hR := H.2.2.1
  have e142 : N 142 = m := hR.2.2.2.1
  have e143 : N 143 = c := hR.2.2.2.2.1
  have hsn : 1 ≤ n ∧ n ≤ 10 := hS.2.2.2.2.1
  rcases p1 with ⟨a1, a2, ⟨a3, a4⟩, a6⟩ | ⟨a1, a2, a0, ⟨a3, a4⟩, a6⟩ | ⟨a1, a2, a0, ⟨a3, a4⟩, a6⟩ <;> rcases p2 with ⟨b1, b2, b3⟩ | ⟨b1, b2, b3, b4⟩ | ⟨b1, b2, b3, b4, b5⟩
  · rw [a1, b1, a3, a4]; exact ⟨rfl, samK H hF hK a6 b3⟩
  · omega
  · omega
  · omega
  · rw [a1, b1, a3, a4]; exact ⟨rfl, samK H hF hK a6 b4⟩
  · omega
  · omega
  · omega
  · have hR2 := RSM_met (x := x) (y := y) hsn.2 hR
    have hN2 := MOK_met ⟨a1.1, a1.2.1⟩ a1.2.2 hN
    rw [← b4] at hR2 hN2
    rw [a0, b3, a3, a4, e142, e143]
    obtain ⟨s1, s2, s3, s4, s5, s6, s7, s8, s9⟩ := hS
    exact ⟨rfl, chgK H hK a6 b5 ⟨s1, s2, s3, s4, s5, s6, s7, ⟨a1.1, a1.2.1⟩, a1.2.2⟩ hN2 hR2⟩
theorem T_undo {w5 h5 n5 m5 c5 nx5 hz5 bs5 fs5 rs5 ca2 cm2 : Int} {f5 X5 Y5 N2 : Int → Int} (H : CRL w h f X Y n m c nx hz bz gs bs rk gn N Cg Lg) (hF : FOK fs w h f m c D fw fh) (hK : ROK rs w h f X Y n m c T fo Fp Ch cc cb)
    (p1 : (r = -2 ∧ hz = 0 ∧ (w5 = w ∧ h5 = h ∧ f5 = f ∧ X5 = X ∧ Y5 = Y ∧ n5 = n ∧ m5 = m ∧ c5 = c) ∧ nx5 = nx ∧ hz5 = hz ∧ bs5 = bs ∧ fs5 = fs ∧ rs5 = rs) ∨ (0 < hz ∧ r = hz - 1 ∧ (w5 = (gs ((nx + 5) % 6)).1 ∧ h5 = (gs ((nx + 5) % 6)).2.1 ∧ f5 = (gs ((nx + 5) % 6)).2.2.1 ∧ X5 = (gs ((nx + 5) % 6)).2.2.2.1 ∧ Y5 = (gs ((nx + 5) % 6)).2.2.2.2.1 ∧ n5 = (gs ((nx + 5) % 6)).2.2.2.2.2.1 ∧ m5 = (gs ((nx + 5) % 6)).2.2.2.2.2.2.1 ∧ c5 = (gs ((nx + 5) % 6)).2.2.2.2.2.2.2) ∧ nx5 = ((nx + 5) % 6) ∧ hz5 = hz - 1 ∧ bs5 = bz ((nx + 5) % 6) ∧ fs5 = 1 ∧ rs5 = 1))
    (p2 : (r' = -2 ∧ hz = 0 ∧ N2 = N ∧ ca2 = nx ∧ cm2 = hz) ∨ (0 < hz ∧ r' = hz - 1 ∧ N2 = (fun j => Cg (145 * ((nx + 5) % 6) + j)) ∧ ca2 = (nx + 5) % 6 ∧ cm2 = hz - 1)) : r = r' ∧ w5 = w ∧ h5 = h ∧ OUT w h f5 X5 Y5 n5 m5 c5 nx5 hz5 bz gs bs5 rk gn N2 Cg Lg ca2 cm2 fs5 D fw fh rs5 T fo Fp Ch cc cb := by
  rcases p1 with ⟨a1, a2, ⟨a3, a4, a5, a6, a7, a8, a9, a10⟩, d1, d2, d3, d4, d5⟩ | ⟨a1, a2, ⟨a3, a4, a5, a6, a7, a8, a9, a10⟩, d1, d2, d3, d4, d5⟩ <;> rcases p2 with ⟨b1, b2, b3, b4, b5⟩ | ⟨b1, b2, b3, b4, b5⟩
  · rw [a5, a6, a7, a8, a9, a10, d1, d2, d3, d4, d5, b3, b4, b5]
    exact ⟨by omega, a3, a4, rfl, rfl, H, hF, hK⟩
  · omega
  · omega
  · obtain ⟨hS, hN, hR, hx, hz', hb, M, hM, hH, hB⟩ := H
    have h0 := hH 0 (by decide) a1
    rw [show (nx + 5 - 0) % 6 = (nx + 5) % 6 by omega] at h0
    generalize gs ((nx + 5) % 6) = G at *
    obtain ⟨w', h', f', X', Y', n', m', c'⟩ := G
    obtain ⟨g1, g2, g3, g4, g5, g6, g7⟩ := h0
    have a3 : w5 = w' := a3
    have a4 : h5 = h' := a4
    have a5 : f5 = f' := a5
    have a6 : X5 = X' := a6
    have a7 : Y5 = Y' := a7
    have a8 : n5 = n' := a8
    have a9 : m5 = m' := a9
    have a10 : c5 = c' := a10
    rw [a5, a6, a7, a8, a9, a10, d1, d2, d3, d4, d5, b3, b4, b5]
    exact ⟨by omega, by omega, by omega, rfl, rfl, ⟨g3, g4, g5, by omega, by omega, by omega, M, by omega, HRL_pop hH, hB⟩, FOK_1 _ _ _ _ _ _ _ _, ROK_1 hK⟩
end
