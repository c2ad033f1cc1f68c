/-! ===== the ledger; taken again and again ===== -/
def BKR (M : Int) (rk gn Lg : Int → Int) : Prop := ∀ i : Int, 0 ≤ i → i < M → (∀ q : Int, 0 ≤ q → q < 6 → Lg (7 * i + q) = prt (rk i) q) ∧ Lg (7 * i + 6) = gn i ∧ 0 ≤ rk i ∧ rk i < 2147483647
theorem BKR_take {M bs r0 mn : Int} {rk gn Lg : Int → Int} (hb : 0 ≤ bs) (hr : 0 ≤ r0 ∧ r0 < 2147483647) (hM : bs ≤ M) (H : BKR M rk gn Lg) : BKR (max M (bs + 1)) (zU rk bs r0) (zU gn bs mn) (zU (ldC Lg bs r0 6) (7 * bs + 6) mn) := by
  intro i a b
  by_cases e : i = bs
  · subst e
    rw [zU_eq, zU_eq]
    refine ⟨fun q q0 q1 => ?_, by rw [zU_eq], hr⟩
    rw [zU_ne _ _ (by omega)]
    unfold ldC
    rw [if_pos (by omega), show 7 * i + q - 7 * i = q by omega]
  · obtain ⟨h1, h2, h3⟩ := H i a (by omega)
    rw [zU_ne _ _ e, zU_ne _ _ e]
    refine ⟨fun q q0 q1 => ?_, ?_, h3⟩
    · rw [zU_ne _ _ (by omega)]
      unfold ldC
      rw [if_neg (by omega)]
      exact h1 q q0 q1
    · rw [zU_ne _ _ (by omega)]
      unfold ldC
      rw [if_neg (by omega)]
      exact h2
theorem A_ledger {M bs i q r r' : Int} {rk gn Lg N : Int → Int} (hM : bs ≤ M) (hN : N 144 = bs) (H : BKR M rk gn Lg) (h1 : r = if -1 ≤ i ∧ 0 ≤ q ∧ q ≤ 6 then (if 0 ≤ i ∧ i < bs ∧ q = 6 then gn i else pOf rk bs i q) else -1) (h2 : r' = if -1 ≤ i ∧ 0 ≤ q ∧ q ≤ 6 then (if i = -1 then N 144 else if 0 ≤ i ∧ i < N 144 then Lg (7 * i + q) else -4) else -1) : r = r' := by
  rw [h1, h2, hN]
  by_cases e : -1 ≤ i ∧ 0 ≤ q ∧ q ≤ 6
  · rw [if_pos e, if_pos e]
    unfold pOf
    by_cases e1 : i = -1
    · rw [if_neg (by omega), if_pos e1, if_pos e1]
    · rw [if_neg e1, if_neg e1]
      by_cases e2 : 0 ≤ i ∧ i < bs
      · obtain ⟨g1, g2, -⟩ := H i e2.1 (by omega)
        rw [if_pos e2, if_pos e2]
        by_cases e3 : q = 6
        · rw [if_pos (by omega), e3, g2]
        · rw [if_neg (by omega), g1 q e.2.1 (by omega)]
      · rw [if_neg (by omega), if_neg e2, if_neg e2]
  · rw [if_neg e, if_neg e]
