section CHG
variable {eE : Nat × Nat} {μ ν σ τ : ST} {K L : Nat}
theorem lt31 {a n : Nat} (h : a < n) (hn : n ≤ 2147483648 := by decide) : a < 2 ^ 31 := by omega
theorem gin {c N : Nat} (h : c < N) (hN : N ≤ 2147483648 := by decide) : ¬ (nI c < 0 ∨ N ≤ c) := fun z => z.elim (nI_pos (lt31 h hN)) (by omega)
theorem acc_rd (hC : Core eE μ ν σ τ) {a : Nat} (ha : a < 6) : gR σ 0 (nI a).toNatClampNeg = some (aq σ a) ∧ (aq σ a ∈ pL σ ∧ pK σ (aq σ a) = 1) := by
  rw [nI_clamp (lt31 ha)]
  exact ⟨(hC.2.1.1 a ha).1, (hC.2.1.1 a ha).2.1⟩
theorem s_charge (x : Int32) (hC : Core eE μ ν σ τ) (hG : Good K L τ) (hK : K + 10 < 2 ^ 31) : ∃ (r : Int32) (σ1 τ1 : ST), TL_charge x σ = some (r, σ1) ∧ MD_begin x τ = some (r, τ1) ∧ Core eE μ ν σ1 τ1 ∧ Good (K + 10) L τ1 ∧ (r = 0 → x ≠ 0 ∧ ∃ a, a < 6 ∧ gI τ1 25 = nI a ∧ gI σ1 0 = nI a ∧ gA τ1 8 a ≠ 0) := by
  unfold TL_charge MD_begin
  have hG' : Good (K + 10) L τ := hG.mono (by omega) (Nat.le_refl _)
  by_cases hx : x = 0
  · simp only [if_pos hx]
    exact ⟨-1, _, _, rfl, rfl, hC, hG', fun h => absurd h (by decide)⟩
  have e0 : gI σ 0 = gI τ 25 := hC.1.1
  have e1 : gI σ 1 = gI τ 26 := hC.1.2.1
  rcases hG.1.1 with hm | ⟨a, ha, hm⟩
  · simp only [if_neg hx, e0, hm, if_true, if_neg (show ¬ (0 : Int32) ≤ -1 by decide)]
    exact ⟨-1, _, _, rfl, rfl, hC, hG', fun h => absurd h (by decide)⟩
  · have ha' : a < 2 ^ 31 := lt31 ha
    have h1 : ¬ nI a = -1 := fun h => absurd (nI_pos' ha') (by rw [h]; decide)
    obtain ⟨r1, r2⟩ := acc_rd hC ha
    obtain ⟨_, _, f0, f1, f3, f2⟩ := hC.2.1.1 a ha
    have hin : ¬ (nI a < 0 ∨ 6 ≤ a) := gin ha
    rw [nI_clamp ha'] at r1
    simp only [if_neg hx, e0, e1, hm, if_neg h1, if_pos (nI_pos' ha'), if_neg hin, nI_clamp ha', r1, bd1, nmS, gd_ok r2, f0, f1, f2, pL_sP, pK_sP, gI_sI, gI_sA, gI_sP, gA_sI, pP_sP, if_true, Nat.reduceEqDiff, if_false]
    by_cases h8 : gA τ 8 a = 0
    · simp only [if_pos h8]
      exact ⟨-2, _, _, rfl, rfl, hC, hG', fun h => absurd h (by decide)⟩
    · simp only [if_neg h8]
      by_cases c1 : gI τ 26 ≤ gA τ 10 a
      · simp only [if_pos c1]
        by_cases c2 : gA τ 10 a ≤ gI τ 26
        · simp only [if_pos c2]
          by_cases c3 : 10 ≤ gA τ 9 a
          · simp only [if_pos c3]
            have e6 : gI σ 6 = gI τ 31 := hC.1.2.2.2.2.2.2.1
            have e10 : gA (sA τ 9 a (gA τ 9 a - 10)) 10 a = gA τ 10 a := gA_ne (by decide)
            rw [e10, e6]
            refine ⟨0, _, _, rfl, rfl, c_s6 (c_num (v := gA τ 10 a + 1) (σ := sP σ (aq σ a) 1 (gA τ 9 a - 10)) (τ := sA τ 9 a (gA τ 9 a - 10)) ha ?_ (c_coin ha hC)), ?_, fun _ => ⟨hx, a, ha, hm, ?_, ?_⟩⟩
            · rw [gA_ne (by decide)]; exact h8
            · have := g_num (a := a) (v := gA τ 10 a + 1) (g_coin (a := a) hG' ((hG.2.1 a ha).2.1.sub (Ab_nI (m := 10) (Nat.le_refl _) (by decide)) hK))
              exact this
            · exact e0.trans hm
            · show gA (sA (sA τ 9 a (gA τ 9 a - 10)) 10 a (gA τ 10 a + 1)) 8 a ≠ 0
              rw [gA_ne (by decide), gA_ne (by decide)]
              exact h8
          · simp only [if_neg c3]
            exact ⟨-5, _, _, rfl, rfl, hC, hG', fun h => absurd h (by decide)⟩
        · simp only [if_neg c2]
          exact ⟨-4, _, _, rfl, rfl, hC, hG', fun h => absurd h (by decide)⟩
      · simp only [if_neg c1]
        exact ⟨-3, _, _, rfl, rfl, hC, hG', fun h => absurd h (by decide)⟩
theorem s_rate {x1 : Int32} (hC : Core eE μ ν σ τ) (hG : Good K L τ) (hK : K + 10 < 2 ^ 31) : ∃ (r : Int32) (σ1 τ1 : ST), TL_rate x1 σ = some (r, σ1) ∧ MD_rate x1 τ = some (r, τ1) ∧ Core eE μ ν σ1 τ1 ∧ Good (K + 10) L τ1 := by
  have hM : MD_rate x1 τ = MD_rate_c17 x1 (if 0 ≤ x1 ∧ x1 ≤ 200 then 1 else 0) τ := by
    unfold MD_rate
    by_cases h1 : x1 < 0
    · rw [if_pos h1, if_neg (fun h => Int32.not_lt.mpr h.1 h1)]
    · rw [if_neg h1]
      by_cases h2 : 200 < x1
      · rw [if_pos h2, if_neg (fun h => Int32.not_lt.mpr h.2 h2)]
      · rw [if_neg h2, if_pos ⟨Int32.not_lt.mp h1, Int32.not_lt.mp h2⟩]
  rw [hM]
  unfold TL_rate MD_rate_c17
  rw [TL_isWithin_eq]
  obtain ⟨r, σ1, τ1, t1, t2, hC1, hG1, h0⟩ := s_charge (if 0 ≤ x1 ∧ x1 ≤ 200 then 1 else 0) hC hG hK
  simp only [bd1, bd2, t1, t2]
  by_cases hr : r = 0
  · obtain ⟨hx, a, ha, hm, hm', _⟩ := h0 hr
    have hx2 : 0 ≤ x1 ∧ x1 ≤ 200 := by
      by_cases h : 0 ≤ x1 ∧ x1 ≤ 200
      · exact h
      · rw [if_neg h] at hx; exact absurd rfl hx
    have ha' : a < 2 ^ 31 := lt31 ha
    obtain ⟨r1, r2⟩ := acc_rd hC1 ha
    rw [nI_clamp ha'] at r1
    have hin : ¬ (nI a < 0 ∨ 6 ≤ a) := gin ha
    simp only [if_pos hr, hm, hm', if_neg hin, nI_clamp ha', r1, nmS, gd_ok r2]
    obtain ⟨j, hj, rfl⟩ := nI_of2 (M := 200) (n := 200) (by decide) (Int32.not_lt.mpr hx2.1) hx2.2
    exact ⟨0, _, _, rfl, rfl, c_rate ha hC1, g_rate hG1 hj⟩
  · simp only [if_neg hr]
    exact ⟨r, _, _, rfl, rfl, hC1, hG1⟩
/-! lines -/
theorem sd_eq : ∀ a b c : Nat, a < 6 → b < 6 → c < 2 → ((((nI a * 6) + nI b) * 2) + nI (c + 1)) - 1 = nI (12 * a + 2 * b + c) := by
  intro a b c ha hb hc
  have e6 : (6 : Int32) = nI 6 := by decide
  have e2 : (2 : Int32) = nI 2 := by decide
  have e1 : (1 : Int32) = nI 1 := by decide
  rw [e6, e2, e1, pk_mul, nI_add, pk_mul, nI_add, pk_sub (by omega)]
  congr 1
  omega
theorem ln_eq : ∀ a b c : Nat, a < 6 → b < 6 → c < 2 → (((12 * nI a) + (2 * nI b)) + nI (c + 1)) - 1 = nI (12 * a + 2 * b + c) := by
  intro a b c ha hb hc
  have e6 : (12 : Int32) = nI 12 := by decide
  have e2 : (2 : Int32) = nI 2 := by decide
  have e1 : (1 : Int32) = nI 1 := by decide
  rw [e6, e2, e1, pk_mul, pk_mul, nI_add, nI_add, pk_sub (by omega)]
  congr 1
theorem LN_side_eq {a b c : Nat} (ha : a < 6) (hb : b < 6) (hc : c < 2) : LN_side (nI a) (nI b) (nI (c + 1)) = some (nI (12 * a + 2 * b + c)) := by
  unfold LN_side
  rw [sd_eq a b c ha hb hc]
theorem MD_line_eq {a b c : Nat} (ha : a < 6) (hb : b < 6) (hc : c < 2) : MD_line (nI a) (nI b) (nI (c + 1)) = some (nI (12 * a + 2 * b + c)) := by
  unfold MD_line
  rw [ln_eq a b c ha hb hc]
theorem cur_of {x : Int32} (h : 1 ≤ x ∧ x ≤ 2) : ∃ c, c < 2 ∧ x = nI (c + 1) := by
  obtain ⟨m, h1, h2, rfl⟩ := rng_of (M := 2) (n := 2) (by decide) h
  exact ⟨m - 1, by omega, by congr 1; omega⟩
theorem cur_iff {x : Int32} : (1 ≤ x ∧ x ≤ 2) ↔ (x = 1 ∨ x = 2) := by
  constructor
  · intro h
    obtain ⟨c, hc, rfl⟩ := cur_of h
    have : c = 0 ∨ c = 1 := by omega
    rcases this with rfl | rfl
    · exact Or.inl (by decide)
    · exact Or.inr (by decide)
  · intro h
    rcases h with rfl | rfl <;> decide
def isLn (x y z : Int32) : Prop := (0 ≤ x ∧ x ≤ 5) ∧ (0 ≤ y ∧ y ≤ 5) ∧ x ≠ y ∧ (1 ≤ z ∧ z ≤ 2)
theorem TL_isLine_y {x y z : Int32} (h : isLn x y z) : TL_isLine x y z = some 1 := by
  obtain ⟨h1, h2, h3, h4⟩ := h
  unfold TL_isLine
  simp only [TL_isAccount_eq, TL_isCurrency_eq, bd1, if_pos h1, if_pos h2, if_neg h3, if_pos h4, i10, if_false]
theorem TL_isLine_n {x y z : Int32} (h : ¬ isLn x y z) : TL_isLine x y z = some 0 := by
  unfold TL_isLine
  simp only [TL_isAccount_eq, TL_isCurrency_eq, bd1]
  by_cases h1 : 0 ≤ x ∧ x ≤ 5
  · by_cases h2 : 0 ≤ y ∧ y ≤ 5
    · by_cases h3 : x = y
      · simp only [if_pos h1, if_pos h2, if_pos h3, i10, if_false]
      · have h4 : ¬ (1 ≤ z ∧ z ≤ 2) := fun h4 => h ⟨h1, h2, h3, h4⟩
        simp only [if_pos h1, if_pos h2, if_neg h3, if_neg h4, i10, i00, if_false, if_true]
    · simp only [if_pos h1, if_neg h2, i10, i00, if_false, if_true]
  · simp only [if_neg h1, i00, if_true]
theorem MD_isLine_y {x y z : Int32} (h : isLn x y z) : MD_isLine x y z = some 1 := by
  obtain ⟨h1, h2, h3, h4⟩ := h
  unfold MD_isLine
  simp only [MD_isAccount_eq, bd1, if_pos h1, if_pos h2, if_neg h3, i10, if_false]
  rcases cur_iff.mp h4 with rfl | rfl <;> decide
theorem MD_isLine_n {x y z : Int32} (h : ¬ isLn x y z) : MD_isLine x y z = some 0 := by
  unfold MD_isLine
  simp only [MD_isAccount_eq, bd1]
  by_cases h1 : 0 ≤ x ∧ x ≤ 5
  · by_cases h2 : 0 ≤ y ∧ y ≤ 5
    · by_cases h3 : x = y
      · simp only [if_pos h1, if_pos h2, if_pos h3, i10, if_false]
      · have h4 : ¬ (1 ≤ z ∧ z ≤ 2) := fun h4 => h ⟨h1, h2, h3, h4⟩
        have h5 : ¬ z = 1 := fun e => h4 (cur_iff.mpr (Or.inl e))
        have h6 : ¬ z = 2 := fun e => h4 (cur_iff.mpr (Or.inr e))
        simp only [if_pos h1, if_pos h2, if_neg h3, if_neg h5, if_neg h6, i10, if_false]
    · simp only [if_pos h1, if_neg h2, i10, i00, if_false, if_true]
  · simp only [if_neg h1, i00, if_true]
theorem s_balance {x1 x2 x3 : Int32} (hC : Core eE μ ν σ τ) : ∃ r : Int32, TL_balance x1 x2 x3 σ = some r ∧ MD_balance x1 x2 x3 τ = some r := by
  unfold TL_balance MD_balance
  by_cases h : isLn x1 x2 x3
  · obtain ⟨h1, h2, h3, h4⟩ := id h
    rw [TL_isLine_y h, MD_isLine_y h]
    obtain ⟨a, ha, rfl⟩ := acct_of h1
    obtain ⟨b, hb, rfl⟩ := acct_of h2
    obtain ⟨c, hc, rfl⟩ := cur_of h4
    have hi : 12 * a + 2 * b + c < 72 := by omega
    simp only [bd1, i10, if_false, LN_side_eq ha hb hc, MD_line_eq ha hb hc, if_neg (gin hi), nI_clamp (lt31 hi), (hC.2.2.1 _ hi).1]
    exact ⟨_, rfl, rfl⟩
  · rw [TL_isLine_n h, MD_isLine_n h]
    exact ⟨0, rfl, rfl⟩
theorem s_limit {x1 x2 x3 : Int32} (hC : Core eE μ ν σ τ) : ∃ r : Int32, TL_limit x1 x2 x3 σ = some r ∧ MD_limit x1 x2 x3 τ = some r := by
  unfold TL_limit MD_limit
  by_cases h : isLn x1 x2 x3
  · obtain ⟨h1, h2, h3, h4⟩ := id h
    rw [TL_isLine_y h, MD_isLine_y h]
    obtain ⟨a, ha, rfl⟩ := acct_of h1
    obtain ⟨b, hb, rfl⟩ := acct_of h2
    obtain ⟨c, hc, rfl⟩ := cur_of h4
    have hi : 12 * a + 2 * b + c < 72 := by omega
    simp only [bd1, i10, if_false, LN_side_eq ha hb hc, MD_line_eq ha hb hc, if_neg (gin hi), nI_clamp (lt31 hi), (hC.2.2.1 _ hi).2.1, (hC.2.2.1 _ hi).2.2]
    by_cases h0 : gA τ 14 (12 * a + 2 * b + c) = 0
    · simp only [if_pos h0]
      exact ⟨_, rfl, rfl⟩
    · simp only [if_neg h0]
      exact ⟨_, rfl, rfl⟩
  · rw [TL_isLine_n h, MD_isLine_n h]
    exact ⟨0, rfl, rfl⟩
end CHG
