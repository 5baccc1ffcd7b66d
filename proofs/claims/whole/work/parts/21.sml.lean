section SML
variable {eE : Nat × Nat} {μ ν σ τ : ST} {K L : Nat}
theorem i_add {x y : Int32} (h1 : -2147483648 ≤ x.toInt + y.toInt) (h2 : x.toInt + y.toInt ≤ 2147483647) : (x + y).toInt = x.toInt + y.toInt := by
  rw [Int32.toInt_add]
  exact Int.bmod_eq_of_le (by omega) (by omega)
theorem i_sub {x y : Int32} (h1 : -2147483648 ≤ x.toInt - y.toInt) (h2 : x.toInt - y.toInt ≤ 2147483647) : (x - y).toInt = x.toInt - y.toInt := by
  rw [Int32.toInt_sub]
  exact Int.bmod_eq_of_le (by omega) (by omega)
theorem i_neg {x : Int32} (h1 : -2147483647 ≤ x.toInt) : (-x).toInt = -x.toInt := by
  have h2 := Int32.toInt_lt x
  rw [Int32.toInt_neg]
  exact Int.bmod_eq_of_le (by omega) (by omega)
theorem Ab.add {D : Nat} {x y : Int32} (h : Ab K x) (hy : Ab D y) (hK : K + D < 2 ^ 31) : Ab (K + D) (x + y) := by
  obtain ⟨h1, h2⟩ := h
  obtain ⟨h3, h4⟩ := hy
  have := i_add (x := x) (y := y) (by omega) (by omega)
  exact ⟨by rw [this]; omega, by rw [this]; omega⟩
theorem Ab.sub {D : Nat} {x y : Int32} (h : Ab K x) (hy : Ab D y) (hK : K + D < 2 ^ 31) : Ab (K + D) (x - y) := by
  obtain ⟨h1, h2⟩ := h
  obtain ⟨h3, h4⟩ := hy
  have := i_sub (x := x) (y := y) (by omega) (by omega)
  exact ⟨by rw [this]; omega, by rw [this]; omega⟩
theorem Ab.neg {x : Int32} (h : Ab K x) (hK : K < 2 ^ 31) : Ab K (-x) := by
  obtain ⟨h1, h2⟩ := h
  have := i_neg (x := x) (by omega)
  exact ⟨by rw [this]; omega, by rw [this]; omega⟩
theorem Ab_nI {m : Nat} (h : m ≤ K) (hm : m < 2 ^ 31) : Ab K (nI m) := by
  have := nI_toInt hm
  exact ⟨by rw [this]; omega, by rw [this]; omega⟩
theorem g_coin {a : Nat} {v : Int32} (h : Good K L τ) (hv : Ab K v) : Good K L (sA τ 9 a v) := by
  refine ⟨h.1, fun i hi => ?_, GL_mA (by omega) h.2.2.1, GQ_mA (by omega) h.2.2.2.1, GO_mA (by omega) h.2.2.2.2.1, GD_mA (by omega) h.2.2.2.2.2⟩
  obtain ⟨f0, f1, f2⟩ := h.2.1 i hi
  by_cases hia : i = a
  · subst hia
    rw [gA_ne (by decide), gA_eq, gA_ne (by decide)]
    exact ⟨f0, hv, f2⟩
  · rw [gA_ne (by decide), gA_nj hia, gA_ne (by decide)]
    exact ⟨f0, f1, f2⟩
theorem g_num {a : Nat} {v : Int32} (h : Good K L τ) : Good K L (sA τ 10 a v) :=
  ⟨h.1, GA_mA (by omega) h.2.1, GL_mA (by omega) h.2.2.1, GQ_mA (by omega) h.2.2.2.1, GO_mA (by omega) h.2.2.2.2.1, GD_mA (by omega) h.2.2.2.2.2⟩
theorem g_ex {a : Nat} (h : Good K L τ) : Good K L (sA τ 8 a 1) := by
  refine ⟨h.1, fun i hi => ?_, GL_mA (by omega) h.2.2.1, GQ_mA (by omega) h.2.2.2.1, GO_mA (by omega) h.2.2.2.2.1, GD_mA (by omega) h.2.2.2.2.2⟩
  obtain ⟨f0, f1, f2⟩ := h.2.1 i hi
  by_cases hia : i = a
  · subst hia
    rw [gA_eq, gA_ne (by decide), gA_ne (by decide)]
    exact ⟨Or.inr rfl, f1, f2⟩
  · rw [gA_nj hia, gA_ne (by decide), gA_ne (by decide)]
    exact ⟨f0, f1, f2⟩
theorem g_rate {a r : Nat} (h : Good K L τ) (hr : r ≤ 200) : Good K L (sA τ 11 a (nI r)) := by
  refine ⟨h.1, fun i hi => ?_, GL_mA (by omega) h.2.2.1, GQ_mA (by omega) h.2.2.2.1, GO_mA (by omega) h.2.2.2.2.1, GD_mA (by omega) h.2.2.2.2.2⟩
  obtain ⟨f0, f1, f2⟩ := h.2.1 i hi
  by_cases hia : i = a
  · subst hia
    rw [gA_ne (by decide), gA_ne (by decide), gA_eq]
    exact ⟨f0, f1, r, hr, rfl⟩
  · rw [gA_ne (by decide), gA_ne (by decide), gA_nj hia]
    exact ⟨f0, f1, f2⟩
theorem g_bal {j : Nat} {v : Int32} (h : Good K L τ) (hv : Ab K v) : Good K L (sA τ 12 j v) := by
  refine ⟨h.1, GA_mA (by omega) h.2.1, fun i hi => ?_, GQ_mA (by omega) h.2.2.2.1, GO_mA (by omega) h.2.2.2.2.1, GD_mA (by omega) h.2.2.2.2.2⟩
  obtain ⟨f0, f1⟩ := h.2.2.1 i hi
  by_cases hij : i = j
  · subst hij
    rw [gA_eq, gA_ne (by decide)]
    exact ⟨hv, f1⟩
  · rw [gA_nj hij, gA_ne (by decide)]
    exact ⟨f0, f1⟩
theorem g_lim {j m : Nat} (h : Good K L τ) (hm : m ≤ 100000) : Good K L (sA τ 13 j (nI m)) := by
  refine ⟨h.1, GA_mA (by omega) h.2.1, fun i hi => ?_, GQ_mA (by omega) h.2.2.2.1, GO_mA (by omega) h.2.2.2.2.1, GD_mA (by omega) h.2.2.2.2.2⟩
  obtain ⟨f0, f1⟩ := h.2.2.1 i hi
  by_cases hij : i = j
  · subst hij
    rw [gA_ne (by decide), gA_eq]
    exact ⟨f0, m, hm, rfl⟩
  · rw [gA_ne (by decide), gA_nj hij]
    exact ⟨f0, f1⟩
theorem g_qui {j : Nat} {v : Int32} (h : Good K L τ) (hj : ∀ a c, a < 6 → c < 2 → 12 * a + 2 * a + c ≠ j) : Good K L (sA τ 14 j v) := by
  refine ⟨h.1, GA_mA (by omega) h.2.1, GL_mA (by omega) h.2.2.1, fun a c ha hc => ?_, GO_mA (by omega) h.2.2.2.2.1, GD_mA (by omega) h.2.2.2.2.2⟩
  rw [gA_nj (hj a c ha hc)]
  exact h.2.2.2.1 a c ha hc
theorem ge_nlt {x y : Int32} : ¬ x < y ↔ y ≤ x := Int32.not_lt
theorem TL_isWithin_eq (x l m : Int32) : TL_isWithin x l m = some (if l ≤ x ∧ x ≤ m then 1 else 0) := by
  unfold TL_isWithin
  by_cases h1 : x < l
  · rw [if_pos h1, if_neg (fun h => Int32.not_lt.mpr h.1 h1)]
  · rw [if_neg h1]
    by_cases h2 : m < x
    · rw [if_pos h2, if_neg (fun h => Int32.not_lt.mpr h.2 h2)]
    · rw [if_neg h2, if_pos ⟨Int32.not_lt.mp h1, Int32.not_lt.mp h2⟩]
theorem ite01 (c : Prop) [Decidable c] : (if c then (1 : Int32) else 0) = 0 ∨ (if c then (1 : Int32) else 0) = 1 := by
  by_cases h : c
  · rw [if_pos h]; exact Or.inr rfl
  · rw [if_neg h]; exact Or.inl rfl
theorem TL_isAccount_eq (x : Int32) : TL_isAccount x = some (if 0 ≤ x ∧ x ≤ 5 then 1 else 0) := by
  unfold TL_isAccount
  rw [TL_isWithin_eq]
  exact gd_ok (ite01 _)
theorem TL_isAsset_eq (x : Int32) : TL_isAsset x = some (if 0 ≤ x ∧ x ≤ 12 then 1 else 0) := by
  unfold TL_isAsset
  rw [TL_isWithin_eq]
  exact gd_ok (ite01 _)
theorem TL_isCurrency_eq (x : Int32) : TL_isCurrency x = some (if 1 ≤ x ∧ x ≤ 2 then 1 else 0) := by
  unfold TL_isCurrency
  rw [TL_isWithin_eq]
  exact gd_ok (ite01 _)
theorem MD_isAccount_eq (x : Int32) : MD_isAccount x = some (if 0 ≤ x ∧ x ≤ 5 then 1 else 0) := TL_isWithin_eq x 0 5
theorem MD_isAsset_eq (x : Int32) : MD_isAsset x = some (if 0 ≤ x ∧ x ≤ 12 then 1 else 0) := TL_isWithin_eq x 0 12
theorem acct_of {x : Int32} (h : 0 ≤ x ∧ x ≤ 5) : ∃ a, a < 6 ∧ x = nI a := by
  obtain ⟨j, hj, e⟩ := nI_of2 (M := 5) (n := 5) (by decide) (Int32.not_lt.mpr h.1) h.2
  exact ⟨j, by omega, e⟩
theorem asset_of {x : Int32} (h : 0 ≤ x ∧ x ≤ 12) : ∃ a, a < 13 ∧ x = nI a := by
  obtain ⟨j, hj, e⟩ := nI_of2 (M := 12) (n := 12) (by decide) (Int32.not_lt.mpr h.1) h.2
  exact ⟨j, by omega, e⟩
theorem rng_of {x M : Int32} {n : Nat} (hM : M.toInt = n) (h : 1 ≤ x ∧ x ≤ M) : ∃ a, 1 ≤ a ∧ a ≤ n ∧ x = nI a := by
  have h1 : 1 ≤ x.toInt := Int32.le_iff_toInt_le.mp h.1
  obtain ⟨j, hj, e⟩ := nI_of2 hM (fun z => by have := Int32.lt_iff_toInt_lt.mp z; have e0 : (0 : Int32).toInt = 0 := by decide
                                              omega) h.2
  refine ⟨j, ?_, hj, e⟩
  rcases Nat.eq_zero_or_pos j with rfl | hp
  · rw [e] at h1
    exact absurd h1 (by decide)
  · exact hp
theorem i10 : ((1 : Int32) = 0) = False := eq_false (by decide)
theorem i00 : ((0 : Int32) = 0) = True := eq_true rfl
theorem nlt0 {a : Nat} (ha : a < 2 ^ 31) : ¬ nI a < 0 := nI_pos ha
theorem s_by {x1 x2 : Int32} (hC : Core eE μ ν σ τ) (hG : Good K L τ) : ∃ (r : Int32) (σ1 τ1 : ST), TL_by x1 x2 σ = some (r, σ1) ∧ MD_by x1 x2 τ = some (r, τ1) ∧ Core eE μ ν σ1 τ1 ∧ Good K L τ1 := by
  unfold TL_by MD_by
  rw [TL_isAccount_eq, MD_isAccount_eq, TL_isWithin_eq]
  simp only [bd1, nmS]
  by_cases h1 : 0 ≤ x1 ∧ x1 ≤ 5
  · simp only [if_pos h1, i10, if_false]
    by_cases h2 : 1 ≤ x2 ∧ x2 ≤ 1000000
    · simp only [if_pos h2, i10, if_false, if_neg (Int32.not_lt.mpr h2.1), if_pos h2.2]
      refine ⟨1, _, _, rfl, rfl, c_s1 (c_s0 hC), ⟨⟨Or.inr (acct_of h1), hG.1.2⟩, hG.2⟩⟩
    · simp only [if_neg h2, i00, if_true]
      refine ⟨0, _, _, rfl, ?_, hC, hG⟩
      by_cases h3 : x2 < 1
      · rw [if_pos h3]
      · rw [if_neg h3, if_neg (fun h => h2 ⟨Int32.not_lt.mp h3, h⟩)]
  · simp only [if_neg h1, i00, if_true]
    exact ⟨0, _, _, rfl, rfl, hC, hG⟩
theorem s_spend {x1 x2 x3 : Int32} (hx : x3 = 0 ∨ x3 = 1) (hC : Core eE μ ν σ τ) (hG : Good K L τ) : ∃ (r : Int32) (σ1 τ1 : ST), TL_spend x1 x2 x3 σ = some (r, σ1) ∧ MD_spend x1 x2 x3 τ = some (r, τ1) ∧ Core eE μ ν σ1 τ1 ∧ Good K L τ1 := by
  unfold TL_spend MD_spend
  rw [TL_isAsset_eq, MD_isAsset_eq, TL_isWithin_eq]
  simp only [bd1, nmS]
  by_cases h1 : 0 ≤ x1 ∧ x1 ≤ 12
  · simp only [if_pos h1, i10, if_false]
    by_cases h2 : 1 ≤ x2 ∧ x2 ≤ 1000000
    · simp only [if_pos h2, i10, if_false, if_neg (Int32.not_lt.mpr h2.1), if_pos h2.2, gd_ok hx]
      refine ⟨1, _, _, rfl, rfl, c_s4 (c_s3 (c_s2 hC)), ⟨⟨hG.1.1, asset_of h1, rng_of (M := 1000000) (by decide) h2, hx⟩, hG.2⟩⟩
    · simp only [if_neg h2, i00, if_true]
      refine ⟨0, _, _, rfl, ?_, hC, hG⟩
      by_cases h3 : x2 < 1
      · rw [if_pos h3]
      · rw [if_neg h3, if_neg (fun h => h2 ⟨Int32.not_lt.mp h3, h⟩)]
  · simp only [if_neg h1, i00, if_true]
    exact ⟨0, _, _, rfl, rfl, hC, hG⟩
theorem sI_self {j : Nat} : sI σ j (gI σ j) = σ := by
  have : upd σ.1 j (gI σ j) = σ.1 := by
    funext i
    unfold upd gI
    by_cases h : i = j
    · rw [if_pos h, h]
    · rw [if_neg h]
  unfold sI
  rw [this]
theorem s_tick {x1 : Int32} (hC : Core eE μ ν σ τ) (hG : Good K L τ) : ∃ (r : Int32) (σ1 τ1 : ST), TL_tick x1 σ = some (r, σ1) ∧ MD_tick x1 τ = some (r, τ1) ∧ Core eE μ ν σ1 τ1 ∧ Good K L τ1 := by
  unfold TL_tick MD_tick MD_tick_c21
  have e5 : gI σ 5 = gI τ 30 := hC.1.2.2.2.2.2.1
  rw [TL_isWithin_eq, e5]
  simp only [bd1, nmS, gI_sI, reduceIte]
  have z : gI τ 30 + 0 = gI τ 30 := Int32.add_zero _
  by_cases h1 : 0 ≤ x1 ∧ x1 ≤ 1000
  · simp only [if_pos h1, i10, if_false, if_neg (Int32.not_lt.mpr h1.1), if_neg (Int32.not_lt.mpr h1.2)]
    exact ⟨_, _, _, rfl, rfl, c_s5 hC, hG⟩
  · simp only [if_neg h1, i00, if_true, z, sI_self]
    refine ⟨_, _, _, rfl, ?_, hC, hG⟩
    by_cases h3 : x1 < 0
    · rw [if_pos h3]
    · rw [if_neg h3, if_pos (Int32.not_le.mp (fun h => h1 ⟨Int32.not_lt.mp h3, h⟩))]
end SML
