section FND
variable {eE : Nat × Nat} {μ ν σ τ : ST} {K L : Nat}
theorem mx0 (x : Int32) : (if 0 ≤ x then some x else some (0 : Int32)) = some (nI x.toNatClampNeg) := by
  by_cases h : x < 0
  · rw [if_neg (Int32.not_le.mpr h)]
    have : x.toNatClampNeg = 0 := by
      have h1 := Int32.lt_iff_toInt_lt.mp h
      have e0 : (0 : Int32).toInt = 0 := by decide
      unfold Int32.toNatClampNeg
      omega
    rw [this]
    rfl
  · rw [if_pos (Int32.not_lt.mp h)]
    obtain ⟨j, hj, rfl⟩ := nI_of h
    rw [nI_clamp hj]
theorem mx1 (x : Int32) : imax 0 x = nI x.toNatClampNeg := by
  have := mx0 x
  unfold imax
  by_cases h : 0 < x
  · rw [if_pos h]
    rw [if_pos (Int32.le_of_lt h)] at this
    exact Option.some.inj this
  · rw [if_neg h]
    by_cases h2 : 0 ≤ x
    · rw [if_pos h2] at this
      have e : x = 0 := Int32.le_antisymm (Int32.not_lt.mp h) h2
      rw [← Option.some.inj this, e]
    · rw [if_neg h2] at this
      exact Option.some.inj this
theorem clamp_lt (x : Int32) : x.toNatClampNeg < 2 ^ 31 := by
  have := Int32.toInt_lt x
  unfold Int32.toNatClampNeg
  omega
theorem iss_eq {k : Nat} (h1 : 1 ≤ k) (hk : k < 13) : imod (nI k - 1) 6 = nI ((k - 1) % 6) := by
  unfold imod
  rw [show (1 : Int32) = nI 1 by decide, show (6 : Int32) = nI 6 by decide, pk_sub h1, pk_rem (by omega) (by decide) (by decide)]
theorem cur_eq {k : Nat} (h1 : 1 ≤ k) (hk : k < 13) : 1 + (nI k - 1) / 6 = nI ((k - 1) / 6 + 1) := by
  rw [show (1 : Int32) = nI 1 by decide, show (6 : Int32) = nI 6 by decide, pk_sub h1, pk_div (by omega) (by decide) (by decide), nI_add, Nat.add_comm]
theorem TL_iss {k : Nat} (h1 : 1 ≤ k) (hk : k < 13) : TL_issuerOf (nI k) = some (nI ((k - 1) % 6)) := by unfold TL_issuerOf; rw [iss_eq h1 hk]
theorem TL_cur {k : Nat} (h1 : 1 ≤ k) (hk : k < 13) : TL_currencyOf (nI k) = some (nI ((k - 1) / 6 + 1)) := by unfold TL_currencyOf; rw [cur_eq h1 hk]
theorem MD_iss {k : Nat} (h1 : 1 ≤ k) (hk : k < 13) : MD_issuerOf (nI k) = some (nI ((k - 1) % 6)) := by unfold MD_issuerOf; rw [iss_eq h1 hk]
theorem MD_cur {k : Nat} (h1 : 1 ≤ k) (hk : k < 13) : MD_currencyOf (nI k) = some (nI ((k - 1) / 6 + 1)) := by unfold MD_currencyOf; rw [cur_eq h1 hk]
/-- the cell of what a has of k -/
def cel (a k : Nat) : Nat := 12 * a + 2 * ((k - 1) % 6) + (k - 1) / 6
/-- and its mirror -/
def cem (a k : Nat) : Nat := 12 * ((k - 1) % 6) + 2 * a + (k - 1) / 6
theorem cel_lt {a k : Nat} (ha : a < 6) (hk : k < 13) : cel a k < 72 := by unfold cel; omega
theorem cem_lt {a k : Nat} (ha : a < 6) (hk : k < 13) : cem a k < 72 := by unfold cem; omega
def fnd (τ : ST) (a k : Nat) : Nat := if k = 0 then (gA τ 9 a - nI (100 + 20 * pcs τ a)).toNatClampNeg else if (k - 1) % 6 = a then 1000000000 else (gA τ 12 (cel a k)).toNatClampNeg
theorem fnd_lt (a k : Nat) : fnd τ a k < 2 ^ 31 := by
  unfold fnd
  split
  · exact clamp_lt _
  · split
    · decide
    · exact clamp_lt _
theorem nI_k0 {k : Nat} (hk : k < 13) : nI k = 0 ↔ k = 0 := by
  rw [show (0 : Int32) = nI 0 by decide]
  exact nI_eq (by omega) (by omega)
theorem ST_fundsOf_eq (hC : Core eE μ ν σ τ) (hG : Good K L τ) {a k : Nat} (ha : a < 6) (hk : k < 13) : ST_fundsOf (nI a) (nI k) σ = some (nI (fnd τ a k)) := by
  unfold ST_fundsOf fnd
  by_cases h0 : k = 0
  · subst h0
    obtain ⟨r1, r2⟩ := acc_rd hC ha
    rw [nI_clamp (lt31 ha)] at r1
    rw [if_pos (show nI 0 = 0 by decide)]
    simp only [if_true, nI_clamp (lt31 ha), if_neg (gin ha), r1, bd1, gd_ok r2, ST_reserveOf_eq hC hG ha, mx1, (hC.2.1.1 a ha).2.2.2.1]
  · rw [if_neg (fun z => h0 ((nI_k0 hk).mp z)), if_neg h0, TL_iss (by omega) hk, TL_cur (by omega) hk]
    simp only [bd1]
    have hi : (k - 1) % 6 < 6 := by omega
    by_cases h1 : (k - 1) % 6 = a
    · rw [if_pos h1, if_pos (by rw [h1])]
      rfl
    · rw [if_neg h1, if_neg (fun z => h1 ((nI_eq (by omega) (by omega)).mp z).symm), LN_side_eq ha hi (show (k - 1) / 6 < 2 by omega)]
      have hc := cel_lt ha hk
      unfold cel at hc ⊢
      simp only [nI_clamp (lt31 hc), if_neg (gin hc), mx1, (hC.2.2.1 _ hc).1]
theorem MD_fundsIn_eq (hG : Good K L τ) {a k : Nat} (ha : a < 6) (hk : k < 13) : MD_fundsIn (nI a) (nI k) τ = some (nI (fnd τ a k)) := by
  unfold MD_fundsIn MD_fundsIn_c15 MD_fundsIn_c44 fnd
  by_cases h0 : k = 0
  · subst h0
    rw [if_pos (show nI 0 ≤ 0 by decide), if_pos (show nI 0 = 0 by decide)]
    simp only [if_true, nI_clamp (lt31 ha), if_neg (gin ha), bd1, MD_reserve_eq hG ha, mx0]
  · rw [if_neg (nI_nle (by omega) (by omega)), if_neg (fun z => h0 ((nI_k0 hk).mp z)), if_neg h0, MD_iss (by omega) hk]
    simp only [bd1]
    have hi : (k - 1) % 6 < 6 := by omega
    by_cases h1 : (k - 1) % 6 = a
    · rw [if_pos h1, if_pos (by rw [h1])]
      rfl
    · rw [if_neg h1, if_neg (fun z => h1 ((nI_eq (by omega) (by omega)).mp z))]
      unfold MD_holding
      rw [MD_iss (by omega) hk, MD_cur (by omega) hk]
      simp only [bd1, MD_line_eq ha hi (show (k - 1) / 6 < 2 by omega)]
      have hc := cel_lt ha hk
      unfold cel at hc ⊢
      simp only [nI_clamp (lt31 hc), if_neg (gin hc), mx0]
theorem ex_rd (hC : Core eE μ ν σ τ) {a : Nat} (ha : a < 6) : pP σ (aq σ a) 0 = gA τ 8 a := (hC.2.1.1 a ha).2.2.1
theorem s_funds {x1 x2 : Int32} (hC : Core eE μ ν σ τ) (hG : Good K L τ) : ∃ r : Int32, TL_funds x1 x2 σ = some r ∧ MD_funds x1 x2 τ = some r := by
  unfold TL_funds MD_funds
  simp only [TL_isAccount_eq, MD_isAccount_eq, TL_isAsset_eq, MD_isAsset_eq, bd1]
  by_cases h1 : 0 ≤ x1 ∧ x1 ≤ 5
  · obtain ⟨a, ha, rfl⟩ := acct_of h1
    obtain ⟨r1, r2⟩ := acc_rd hC ha
    rw [nI_clamp (lt31 ha)] at r1
    simp only [if_pos h1, i10, if_false, nI_clamp (lt31 ha), if_neg (gin ha), r1, gd_ok r2, ex_rd hC ha]
    by_cases h2 : 0 ≤ x2 ∧ x2 ≤ 12
    · obtain ⟨k, hk, rfl⟩ := asset_of h2
      simp only [if_pos h2, i10, if_false, ST_fundsOf_eq hC hG ha hk, MD_fundsIn_eq hG ha hk]
      by_cases h3 : gA τ 8 a = 0
      · simp only [if_pos h3]
        exact ⟨_, rfl, rfl⟩
      · simp only [if_neg h3]
        exact ⟨_, rfl, rfl⟩
    · simp only [if_neg h2, i00, if_true]
      by_cases h3 : gA τ 8 a = 0
      · simp only [if_pos h3]
        exact ⟨_, rfl, rfl⟩
      · simp only [if_neg h3]
        exact ⟨_, rfl, rfl⟩
  · simp only [if_neg h1, i00, if_true]
    exact ⟨_, rfl, rfl⟩
theorem s_account {x1 x2 : Int32} (hC : Core eE μ ν σ τ) (hG : Good K L τ) : ∃ r : Int32, TL_account x1 x2 σ = some r ∧ MD_account x1 x2 τ = some r := by
  unfold TL_account MD_account
  simp only [TL_isAccount_eq, MD_isAccount_eq, bd1]
  by_cases h1 : 0 ≤ x1 ∧ x1 ≤ 5
  · obtain ⟨a, ha, rfl⟩ := acct_of h1
    obtain ⟨r1, r2⟩ := acc_rd hC ha
    rw [nI_clamp (lt31 ha)] at r1
    obtain ⟨_, _, f0, f1, f3, f2⟩ := hC.2.1.1 a ha
    simp only [if_pos h1, i10, if_false, nI_clamp (lt31 ha), if_neg (gin ha), r1, gd_ok r2, f0, f1, f3, f2, ST_piecesOf_eq hC hG ha, MD_pieces_eq hG ha]
    have e3 : (3 : Int32).toInt = 3 := by decide
    have e0 : (0 : Int32).toInt = 0 := by decide
    by_cases h8 : gA τ 8 a = 0
    · simp only [if_pos h8]
      refine ⟨-1, rfl, ?_⟩
      split
      · rfl
      · split <;> rfl
    · simp only [if_neg h8]
      by_cases h2 : x2.toInt < 0 ∨ 3 < x2.toInt
      · simp only [if_pos h2]
        refine ⟨-1, rfl, ?_⟩
        rcases h2 with h2 | h2
        · rw [if_pos (Int32.lt_iff_toInt_lt.mpr (by rw [e0]; exact h2))]
        · rw [if_neg (fun z => by have := Int32.lt_iff_toInt_lt.mp z; omega), if_neg (fun z => by have := Int32.le_iff_toInt_le.mp z; omega)]
      · have g1 : ¬ x2 < 0 := fun z => h2 (Or.inl (by have := Int32.lt_iff_toInt_lt.mp z; omega))
        have g2 : x2 ≤ 3 := Int32.le_iff_toInt_le.mpr (by omega)
        obtain ⟨j, hj, rfl⟩ := nI_of2 (M := 3) (n := 3) (by decide) g1 g2
        simp only [if_neg h2, if_neg g1, if_pos g2]
        have : j = 0 ∨ j = 1 ∨ j = 2 ∨ j = 3 := by omega
        rcases this with rfl | rfl | rfl | rfl
        · exact ⟨_, rfl, rfl⟩
        · exact ⟨_, rfl, rfl⟩
        · exact ⟨_, rfl, rfl⟩
        · exact ⟨_, rfl, rfl⟩
  · simp only [if_neg h1, i00, if_true]
    exact ⟨_, rfl, rfl⟩
/-- whether the coins reach the reserve with one piece more -/
theorem ST_afford_eq (hC : Core eE μ ν σ τ) (hG : Good K L τ) {a v : Nat} (ha : a < 6) (hv : v ≤ 1000000) (hK : K + 1100000 < 2 ^ 31) : ST_affordsOneMore (nI a) (nI v) σ = some (if (gA τ 9 a).toInt - v < ((120 + 20 * pcs τ a : Nat) : Int) then 0 else 1) := by
  unfold ST_affordsOneMore
  obtain ⟨r1, r2⟩ := acc_rd hC ha
  rw [nI_clamp (lt31 ha)] at r1
  have hp := pcs_le hG a
  simp only [nI_clamp (lt31 ha), if_neg (gin ha), r1, bd1, gd_ok r2, ST_reserveOf_eq hC hG ha, (hC.2.1.1 a ha).2.2.2.1]
  have hv' : v < 2 ^ 31 := by omega
  have hb := (hG.2.1 a ha).2.1
  have e1 : (gA τ 9 a - nI v).toInt = (gA τ 9 a).toInt - v := by
    rw [i_sub (by rw [nI_toInt hv']; have := hb.1; omega) (by rw [nI_toInt hv']; have := hb.2; omega), nI_toInt hv']
  have e2 : nI (100 + 20 * pcs τ a) + 20 = nI (120 + 20 * pcs τ a) := by
    rw [show (20 : Int32) = nI 20 by decide, nI_add]
    congr 1
    omega
  have e3 : (nI (120 + 20 * pcs τ a)).toInt = ((120 + 20 * pcs τ a : Nat) : Int) := nI_toInt (by omega)
  rw [e2]
  by_cases h : (gA τ 9 a).toInt - v < ((120 + 20 * pcs τ a : Nat) : Int)
  · rw [if_pos h, if_pos (Int32.lt_iff_toInt_lt.mpr (by rw [e1, e3]; exact h))]
  · rw [if_neg h, if_neg (fun z => h (by have := Int32.lt_iff_toInt_lt.mp z; rw [e1, e3] at this; exact this))]
end FND
