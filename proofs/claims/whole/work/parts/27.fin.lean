section FIN
variable {eE : Nat × Nat} {μ ν σ σ' τ τ' : ST} {K L : Nat}
theorem ST_placeOfOffer_n (hC : Core eE μ ν σ τ) (hG : Good K L τ) {x : Int32} : ∀ (m N j : Nat), j + m = nO τ → m < N → (∀ i, j ≤ i → i < nO τ → gA τ 15 i ≠ x) → ST_placeOfOffer_L2 N x (nI j) σ = some (-1)
  | 0, N + 1, j, hj, _, _ => by
    have hn := hG.2.2.2.2.1.2.1
    show ST_placeOfOffer_b2 _ _ _ _ = _
    unfold ST_placeOfOffer_b2
    rw [szO hC hG]
    simp only [bd1, if_pos (nI_le (show nO τ ≤ j by omega) (by omega))]
  | m + 1, N + 1, j, hj, hN, h => by
    have hn := hG.2.2.2.2.1.2.1
    have hj' : j < nO τ := by omega
    obtain ⟨_, f1, f2, _⟩ := hC.2.2.2.1.2.1 j hj'
    show ST_placeOfOffer_b2 _ _ _ _ = _
    unfold ST_placeOfOffer_b2
    rw [szO hC hG, off_rd hC hG hj']
    simp only [bd1, nI_1, if_neg (nI_ge hj' (by omega)), gd_ok f1, f2, if_neg (h j (Nat.le_refl _) hj')]
    exact ST_placeOfOffer_n hC hG m N (j + 1) (by omega) (by omega) (fun i h1 h2 => h i (by omega) h2)
theorem ST_placeOfOffer_y (hC : Core eE μ ν σ τ) (hG : Good K L τ) {x : Int32} {p : Nat} (hp : p < nO τ) (hx : gA τ 15 p = x) : ∀ (m N j : Nat), j + m = p → m < N → (∀ i, j ≤ i → i < p → gA τ 15 i ≠ x) → ST_placeOfOffer_L2 N x (nI j) σ = some (nI p)
  | 0, N + 1, j, hj, _, _ => by
    have hn := hG.2.2.2.2.1.2.1
    have e : j = p := by omega
    subst e
    obtain ⟨_, f1, f2, _⟩ := hC.2.2.2.1.2.1 j hp
    show ST_placeOfOffer_b2 _ _ _ _ = _
    unfold ST_placeOfOffer_b2
    rw [szO hC hG, off_rd hC hG hp]
    simp only [bd1, if_neg (nI_ge hp (by omega)), gd_ok f1, f2, if_pos hx]
  | m + 1, N + 1, j, hj, hN, h => by
    have hn := hG.2.2.2.2.1.2.1
    have hj' : j < nO τ := by omega
    obtain ⟨_, f1, f2, _⟩ := hC.2.2.2.1.2.1 j hj'
    show ST_placeOfOffer_b2 _ _ _ _ = _
    unfold ST_placeOfOffer_b2
    rw [szO hC hG, off_rd hC hG hj']
    simp only [bd1, nI_1, if_neg (nI_ge hj' (by omega)), gd_ok f1, f2, if_neg (h j (Nat.le_refl _) (by omega))]
    exact ST_placeOfOffer_y hC hG hp hx m N (j + 1) (by omega) (by omega) (fun i h1 h2 => h i (by omega) h2)
theorem MD_findOffer_n (hG : Good K L τ) {x : Int32} : ∀ (m N j : Nat) (at0 : Int32), j + m = nO τ → m < N → (∀ i, j ≤ i → i < nO τ → gA τ 15 i ≠ x) → MD_findOffer_L4 N x at0 (nI j) τ = some at0
  | 0, N + 1, j, at0, hj, _, _ => by
    obtain ⟨g1, hn, _⟩ := hG.2.2.2.2.1
    show MD_findOffer_b4 _ _ _ _ _ = _
    unfold MD_findOffer_b4
    rw [g1, if_pos (nI_le (show nO τ ≤ j by omega) (by omega))]
  | m + 1, N + 1, j, at0, hj, hN, h => by
    obtain ⟨g1, hn, _⟩ := hG.2.2.2.2.1
    have hj' : j < nO τ := by omega
    show MD_findOffer_b4 _ _ _ _ _ = _
    unfold MD_findOffer_b4
    rw [g1]
    simp only [nI_1, if_neg (nI_ge hj' (by omega)), nI_clamp (show j < 2 ^ 31 by omega), if_neg (gin (show j < 12 by omega)), if_neg (h j (Nat.le_refl _) hj')]
    exact MD_findOffer_n hG m N (j + 1) at0 (by omega) (by omega) (fun i h1 h2 => h i (by omega) h2)
theorem MD_findOffer_y (hG : Good K L τ) {x : Int32} {p : Nat} (hp : p < nO τ) (hx : gA τ 15 p = x) (hu : ∀ i, i < nO τ → i ≠ p → gA τ 15 i ≠ x) : ∀ (m N j : Nat) (at0 : Int32), j + m = p → nO τ - j < N → MD_findOffer_L4 N x at0 (nI j) τ = some (nI p)
  | 0, N + 1, j, at0, hj, hN => by
    obtain ⟨g1, hn, _⟩ := hG.2.2.2.2.1
    have e : j = p := by omega
    subst e
    show MD_findOffer_b4 _ _ _ _ _ = _
    unfold MD_findOffer_b4
    rw [g1]
    simp only [nI_1, if_neg (nI_ge hp (by omega)), nI_clamp (show j < 2 ^ 31 by omega), if_neg (gin (show j < 12 by omega)), if_pos hx]
    exact MD_findOffer_n hG (nO τ - (j + 1)) N (j + 1) (nI j) (by omega) (by omega) (fun i h1 h2 => hu i h2 (by omega))
  | m + 1, N + 1, j, at0, hj, hN => by
    obtain ⟨g1, hn, _⟩ := hG.2.2.2.2.1
    have hj' : j < nO τ := by omega
    show MD_findOffer_b4 _ _ _ _ _ = _
    unfold MD_findOffer_b4
    rw [g1]
    simp only [nI_1, if_neg (nI_ge hj' (by omega)), nI_clamp (show j < 2 ^ 31 by omega), if_neg (gin (show j < 12 by omega)), if_neg (hu j hj' (by omega))]
    exact MD_findOffer_y hG hp hx hu m N (j + 1) at0 (by omega) (by omega)
  | m, 0, j, at0, hj, hN => by omega
/-- an id stands nowhere, or at one place alone -/
theorem findO (hC : Core eE μ ν σ τ) (hG : Good K L τ) (x : Int32) : (ST_placeOfOffer x σ = some (-1) ∧ MD_findOffer x τ = some (-1)) ∨ ∃ p, p < nO τ ∧ gA τ 15 p = x ∧ ST_placeOfOffer x σ = some (nI p) ∧ MD_findOffer x τ = some (nI p) := by
  obtain ⟨g1, hn, _, g4, _⟩ := hG.2.2.2.2.1
  unfold ST_placeOfOffer MD_findOffer
  by_cases h : ∃ p, p < nO τ ∧ gA τ 15 p = x
  · obtain ⟨p, hp, hx⟩ := h
    have hu : ∀ i, i < nO τ → i ≠ p → gA τ 15 i ≠ x := fun i hi hne e => by
      rcases Nat.lt_or_gt_of_ne hne with c | c
      · have := g4 i p c hp
        rw [e, hx] at this
        omega
      · have := g4 p i c hi
        rw [e, hx] at this
        omega
    refine Or.inr ⟨p, hp, hx, ?_, ?_⟩
    · exact ST_placeOfOffer_y hC hG hp hx p FU 0 (by omega) (by rw [FUv]; omega) (fun i _ h2 => hu i (by omega) (by omega))
    · exact MD_findOffer_y hG hp hx hu p FU 0 (-1) (by omega) (by rw [FUv]; omega)
  · have hu : ∀ i, 0 ≤ i → i < nO τ → gA τ 15 i ≠ x := fun i _ hi e => h ⟨i, hi, e⟩
    refine Or.inl ⟨?_, ?_⟩
    · exact ST_placeOfOffer_n hC hG (nO τ) FU 0 (by omega) (by rw [FUv]; omega) hu
    · exact MD_findOffer_n hG (nO τ) FU 0 (-1) (by omega) (by rw [FUv]; omega) hu
theorem ST_placeOfDeposit_n (hC : Core eE μ ν σ τ) (hG : Good K L τ) {x : Int32} : ∀ (m N j : Nat), j + m = nD τ → m < N → (∀ i, j ≤ i → i < nD τ → gA τ 21 i ≠ x) → ST_placeOfDeposit_L2 N x (nI j) σ = some (-1)
  | 0, N + 1, j, hj, _, _ => by
    have hn := hG.2.2.2.2.2.2.1
    show ST_placeOfDeposit_b2 _ _ _ _ = _
    unfold ST_placeOfDeposit_b2
    rw [szD hC hG]
    simp only [bd1, if_pos (nI_le (show nD τ ≤ j by omega) (by omega))]
  | m + 1, N + 1, j, hj, hN, h => by
    have hn := hG.2.2.2.2.2.2.1
    have hj' : j < nD τ := by omega
    obtain ⟨_, f1, f2, _⟩ := hC.2.2.2.2.1.2.1 j hj'
    show ST_placeOfDeposit_b2 _ _ _ _ = _
    unfold ST_placeOfDeposit_b2
    rw [szD hC hG, dep_rd hC hG hj']
    simp only [bd1, nI_1, if_neg (nI_ge hj' (by omega)), gd_ok f1, f2, if_neg (h j (Nat.le_refl _) hj')]
    exact ST_placeOfDeposit_n hC hG m N (j + 1) (by omega) (by omega) (fun i h1 h2 => h i (by omega) h2)
theorem ST_placeOfDeposit_y (hC : Core eE μ ν σ τ) (hG : Good K L τ) {x : Int32} {p : Nat} (hp : p < nD τ) (hx : gA τ 21 p = x) : ∀ (m N j : Nat), j + m = p → m < N → (∀ i, j ≤ i → i < p → gA τ 21 i ≠ x) → ST_placeOfDeposit_L2 N x (nI j) σ = some (nI p)
  | 0, N + 1, j, hj, _, _ => by
    have hn := hG.2.2.2.2.2.2.1
    have e : j = p := by omega
    subst e
    obtain ⟨_, f1, f2, _⟩ := hC.2.2.2.2.1.2.1 j hp
    show ST_placeOfDeposit_b2 _ _ _ _ = _
    unfold ST_placeOfDeposit_b2
    rw [szD hC hG, dep_rd hC hG hp]
    simp only [bd1, if_neg (nI_ge hp (by omega)), gd_ok f1, f2, if_pos hx]
  | m + 1, N + 1, j, hj, hN, h => by
    have hn := hG.2.2.2.2.2.2.1
    have hj' : j < nD τ := by omega
    obtain ⟨_, f1, f2, _⟩ := hC.2.2.2.2.1.2.1 j hj'
    show ST_placeOfDeposit_b2 _ _ _ _ = _
    unfold ST_placeOfDeposit_b2
    rw [szD hC hG, dep_rd hC hG hj']
    simp only [bd1, nI_1, if_neg (nI_ge hj' (by omega)), gd_ok f1, f2, if_neg (h j (Nat.le_refl _) (by omega))]
    exact ST_placeOfDeposit_y hC hG hp hx m N (j + 1) (by omega) (by omega) (fun i h1 h2 => h i (by omega) h2)
theorem MD_findDeposit_n (hG : Good K L τ) {x : Int32} : ∀ (m N j : Nat) (at0 : Int32), j + m = nD τ → m < N → (∀ i, j ≤ i → i < nD τ → gA τ 21 i ≠ x) → MD_findDeposit_L4 N x at0 (nI j) τ = some at0
  | 0, N + 1, j, at0, hj, _, _ => by
    obtain ⟨g1, hn, _⟩ := hG.2.2.2.2.2
    show MD_findDeposit_b4 _ _ _ _ _ = _
    unfold MD_findDeposit_b4
    rw [g1, if_pos (nI_le (show nD τ ≤ j by omega) (by omega))]
  | m + 1, N + 1, j, at0, hj, hN, h => by
    obtain ⟨g1, hn, _⟩ := hG.2.2.2.2.2
    have hj' : j < nD τ := by omega
    show MD_findDeposit_b4 _ _ _ _ _ = _
    unfold MD_findDeposit_b4
    rw [g1]
    simp only [nI_1, if_neg (nI_ge hj' (by omega)), nI_clamp (show j < 2 ^ 31 by omega), if_neg (gin (show j < 6 by omega)), if_neg (h j (Nat.le_refl _) hj')]
    exact MD_findDeposit_n hG m N (j + 1) at0 (by omega) (by omega) (fun i h1 h2 => h i (by omega) h2)
theorem MD_findDeposit_y (hG : Good K L τ) {x : Int32} {p : Nat} (hp : p < nD τ) (hx : gA τ 21 p = x) (hu : ∀ i, i < nD τ → i ≠ p → gA τ 21 i ≠ x) : ∀ (m N j : Nat) (at0 : Int32), j + m = p → nD τ - j < N → MD_findDeposit_L4 N x at0 (nI j) τ = some (nI p)
  | 0, N + 1, j, at0, hj, hN => by
    obtain ⟨g1, hn, _⟩ := hG.2.2.2.2.2
    have e : j = p := by omega
    subst e
    show MD_findDeposit_b4 _ _ _ _ _ = _
    unfold MD_findDeposit_b4
    rw [g1]
    simp only [nI_1, if_neg (nI_ge hp (by omega)), nI_clamp (show j < 2 ^ 31 by omega), if_neg (gin (show j < 6 by omega)), if_pos hx]
    exact MD_findDeposit_n hG (nD τ - (j + 1)) N (j + 1) (nI j) (by omega) (by omega) (fun i h1 h2 => hu i h2 (by omega))
  | m + 1, N + 1, j, at0, hj, hN => by
    obtain ⟨g1, hn, _⟩ := hG.2.2.2.2.2
    have hj' : j < nD τ := by omega
    show MD_findDeposit_b4 _ _ _ _ _ = _
    unfold MD_findDeposit_b4
    rw [g1]
    simp only [nI_1, if_neg (nI_ge hj' (by omega)), nI_clamp (show j < 2 ^ 31 by omega), if_neg (gin (show j < 6 by omega)), if_neg (hu j hj' (by omega))]
    exact MD_findDeposit_y hG hp hx hu m N (j + 1) at0 (by omega) (by omega)
  | m, 0, j, at0, hj, hN => by omega
/-- an id stands nowhere, or at one place alone -/
theorem findD (hC : Core eE μ ν σ τ) (hG : Good K L τ) (x : Int32) : (ST_placeOfDeposit x σ = some (-1) ∧ MD_findDeposit x τ = some (-1)) ∨ ∃ p, p < nD τ ∧ gA τ 21 p = x ∧ ST_placeOfDeposit x σ = some (nI p) ∧ MD_findDeposit x τ = some (nI p) := by
  obtain ⟨g1, hn, _, g4, _⟩ := hG.2.2.2.2.2
  unfold ST_placeOfDeposit MD_findDeposit
  by_cases h : ∃ p, p < nD τ ∧ gA τ 21 p = x
  · obtain ⟨p, hp, hx⟩ := h
    have hu : ∀ i, i < nD τ → i ≠ p → gA τ 21 i ≠ x := fun i hi hne e => by
      rcases Nat.lt_or_gt_of_ne hne with c | c
      · have := g4 i p c hp
        rw [e, hx] at this
        omega
      · have := g4 p i c hi
        rw [e, hx] at this
        omega
    refine Or.inr ⟨p, hp, hx, ?_, ?_⟩
    · exact ST_placeOfDeposit_y hC hG hp hx p FU 0 (by omega) (by rw [FUv]; omega) (fun i _ h2 => hu i (by omega) (by omega))
    · exact MD_findDeposit_y hG hp hx hu p FU 0 (-1) (by omega) (by rw [FUv]; omega)
  · have hu : ∀ i, 0 ≤ i → i < nD τ → gA τ 21 i ≠ x := fun i _ hi e => h ⟨i, hi, e⟩
    refine Or.inl ⟨?_, ?_⟩
    · exact ST_placeOfDeposit_n hC hG (nD τ) FU 0 (by omega) (by rw [FUv]; omega) hu
    · exact MD_findDeposit_n hG (nD τ) FU 0 (-1) (by omega) (by rw [FUv]; omega) hu
theorem nIm1 {p : Nat} (hp : p < 2 ^ 31) : ¬ nI p = -1 := fun h => absurd (nI_pos' hp) (by rw [h]; decide)
theorem s_depositOf {x1 : Int32} (hC : Core eE μ ν σ τ) (hG : Good K L τ) : ∃ r : Int32, TL_depositOf x1 σ = some r ∧ MD_depositOf x1 τ = some r := by
  have hn := hG.2.2.2.2.2.2.1
  unfold TL_depositOf MD_depositOf
  rcases findD hC hG x1 with ⟨e1, e2⟩ | ⟨p, hp, _, e1, e2⟩
  · simp only [e1, e2, bd1, if_true, if_neg (show ¬ (0 : Int32) ≤ -1 by decide)]
    exact ⟨_, rfl, rfl⟩
  · have hp' : p < 2 ^ 31 := by omega
    obtain ⟨_, f1, f⟩ := hC.2.2.2.2.1.2.1 p hp
    simp only [e1, e2, bd1, if_neg (nIm1 hp'), if_pos (nI_pos' hp'), nI_clamp hp', if_neg (gin (show p < 6 by omega)), dep_rd hC hG hp, gd_ok f1, f.2.2.2.1]
    exact ⟨_, rfl, rfl⟩
theorem s_offerOf {x1 x2 : Int32} (hC : Core eE μ ν σ τ) (hG : Good K L τ) : ∃ r : Int32, TL_offerOf x1 x2 σ = some r ∧ MD_offerOf x1 x2 τ = some r := by
  have hn := hG.2.2.2.2.1.2.1
  unfold TL_offerOf MD_offerOf
  rcases findO hC hG x1 with ⟨e1, e2⟩ | ⟨p, hp, _, e1, e2⟩
  · simp only [e1, e2, bd1, if_true, if_pos (show (-1 : Int32) < 0 by decide)]
    exact ⟨_, rfl, rfl⟩
  · have hp' : p < 2 ^ 31 := by omega
    obtain ⟨_, f1, f⟩ := hC.2.2.2.1.2.1 p hp
    simp only [e1, e2, bd1, if_neg (nIm1 hp'), if_neg (nI_pos hp'), nI_clamp hp', if_neg (gin (show p < 12 by omega)), off_rd hC hG hp, gd_ok f1, f.2.1, f.2.2.2.1, f.2.2.2.2.2]
    have e3 : (2 : Int32).toInt = 2 := by decide
    have e0 : (0 : Int32).toInt = 0 := by decide
    by_cases h2 : x2.toInt < 0 ∨ 2 < x2.toInt
    · simp only [if_pos h2]
      refine ⟨-1, rfl, ?_⟩
      rcases h2 with h2 | h2
      · rw [if_pos (Int32.lt_iff_toInt_lt.mpr (by rw [e0]; exact h2))]
      · rw [if_neg (fun z => by have := Int32.lt_iff_toInt_lt.mp z; omega), if_neg (fun z => by have := Int32.le_iff_toInt_le.mp z; omega)]
    · have g1 : ¬ x2 < 0 := fun z => h2 (Or.inl (by have := Int32.lt_iff_toInt_lt.mp z; omega))
      have g2 : x2 ≤ 2 := Int32.le_iff_toInt_le.mpr (by omega)
      obtain ⟨j, hj, rfl⟩ := nI_of2 (M := 2) (n := 2) (by decide) g1 g2
      simp only [if_neg h2, if_neg g1, if_pos g2]
      have : j = 0 ∨ j = 1 ∨ j = 2 := by omega
      rcases this with rfl | rfl | rfl
      · exact ⟨_, rfl, rfl⟩
      · exact ⟨_, rfl, rfl⟩
      · exact ⟨_, rfl, rfl⟩
/-! the reference's shifting -/
theorem mvo {x y : Nat} (hx : x < 12) (hy : y < 12) : ∃ τ1 : ST, MD_moveOffer (nI x) (nI y) τ = some τ1 ∧ (∀ b i, gA τ1 b i = if (15 ≤ b ∧ b ≤ 20) ∧ i = y then gA τ b x else gA τ b i) ∧ (∀ i, gI τ1 i = gI τ i) ∧ τ1.2.1 = τ.2.1 ∧ τ1.2.2.2 = τ.2.2.2 := by
  unfold MD_moveOffer
  simp only [nI_clamp (lt31 hx), nI_clamp (lt31 hy), if_neg (gin hx), if_neg (gin hy), nmS]
  refine ⟨_, rfl, fun b i => ?_, fun _ => rfl, rfl, rfl⟩
  have hb : b = 15 ∨ b = 16 ∨ b = 17 ∨ b = 18 ∨ b = 19 ∨ b = 20 ∨ (b < 15 ∨ 20 < b) := by omega
  rcases hb with rfl | rfl | rfl | rfl | rfl | rfl | hb
  iterate 6
    · by_cases hi : i = y
      · subst hi
        simp only [gA_sA, reduceIte, Nat.reduceEqDiff, Nat.reduceLeDiff, and_self]
      · simp only [gA_sA, if_neg hi, reduceIte, Nat.reduceEqDiff, and_false, hi]
  · rw [if_neg (fun z => by omega)]
    rw [gA_ne (by omega), gA_ne (by omega), gA_ne (by omega), gA_ne (by omega), gA_ne (by omega), gA_ne (by omega)]
/-- shifted from p on, as far as j -/
def MvO (τ : ST) (n p j : Nat) (τ1 : ST) : Prop := gI τ1 21 = nI (n - 1) ∧ (∀ b i, gA τ1 b i = if (15 ≤ b ∧ b ≤ 20) ∧ p ≤ i ∧ i < j then gA τ b (i + 1) else gA τ b i) ∧ (∀ i, i ≠ 21 → gI τ1 i = gI τ i) ∧ τ1.2.1 = τ.2.1 ∧ τ1.2.2.2 = τ.2.2.2
theorem cancel_L {n p : Nat} (hn : n ≤ 12) : ∀ (m N j : Nat) (τ1 : ST), j + m = n - 1 → p ≤ j → m < N → 0 < n → MvO τ n p j τ1 → ∃ τ2, MD_cancel_L60 N (nI j) τ1 = some (0, τ2) ∧ MvO τ n p (n - 1) τ2
  | 0, N + 1, j, τ1, hj, _, _, _, h => by
    show ∃ τ2, MD_cancel_b60 _ _ _ = _ ∧ _
    unfold MD_cancel_b60
    rw [h.1, if_pos (nI_le (by omega) (by omega))]
    have e : j = n - 1 := by omega
    subst e
    exact ⟨_, rfl, h⟩
  | m + 1, N + 1, j, τ1, hj, hp, hN, h0, h => by
    show ∃ τ2, MD_cancel_b60 _ _ _ = _ ∧ _
    unfold MD_cancel_b60
    obtain ⟨h1, h2, h3, h4, h5⟩ := h
    obtain ⟨τ2, e, k2, k3, k4, k5⟩ := mvo (τ := τ1) (x := j + 1) (y := j) (by omega) (by omega)
    rw [h1, if_neg (nI_ge (show j < n - 1 by omega) (by omega))]
    simp only [nI_1, e, bd1]
    refine cancel_L hn m N (j + 1) τ2 (by omega) (by omega) (by omega) h0 ⟨(k3 21).trans h1, fun b i => ?_, fun i hi => (k3 i).trans (h3 i hi), k4.trans h4, k5.trans h5⟩
    rw [k2, h2, h2]
    by_cases hb : 15 ≤ b ∧ b ≤ 20
    · by_cases hi : i = j
      · subst hi
        rw [if_pos ⟨hb, rfl⟩, if_neg (fun z => by omega), if_pos ⟨hb, hp, by omega⟩]
      · rw [if_neg (fun z => hi z.2)]
        by_cases hc : p ≤ i ∧ i < j
        · rw [if_pos ⟨hb, hc⟩, if_pos ⟨hb, hc.1, by omega⟩]
        · rw [if_neg (fun z => hc z.2), if_neg (fun z => hc ⟨z.2.1, by omega⟩)]
    · rw [if_neg (fun z => hb z.1), if_neg (fun z => hb z.1), if_neg (fun z => hb z.1)]
  | m, 0, j, τ1, hj, _, hN, _, _ => by omega
theorem MvO.sub {p : Nat} (hp : p < nO τ) (h12 : nO τ ≤ 12) (h : MvO τ (nO τ) p (nO τ - 1) τ') : OSubO τ τ' ((List.range (nO τ)).eraseIdx p) := by
  obtain ⟨h1, h2, h3, h4, h5⟩ := h
  have hl : ((List.range (nO τ)).eraseIdx p).length = nO τ - 1 := by rw [List.length_eraseIdx_of_lt (by rw [List.length_range]; exact hp), List.length_range]
  refine ⟨by rw [hl]; exact h1, fun b j b1 b2 hj => ?_, h3, h4, fun b i hb => ?_, h5⟩
  · rw [hl] at hj
    rw [h2, xg_er]
    by_cases hc : j < p
    · rw [if_neg (fun z => by omega), if_pos hc, xg_range (by omega)]
    · rw [if_pos ⟨⟨b1, b2⟩, by omega, hj⟩, if_neg hc, xg_range (by omega)]
  · rw [h2, if_neg (fun z => by omega)]
def MvD (τ : ST) (n p j : Nat) (τ1 : ST) : Prop := gI τ1 23 = nI (n - 1) ∧ (∀ b i, gA τ1 b i = if (21 ≤ b ∧ b ≤ 26) ∧ p ≤ i ∧ i < j then gA τ b (i + 1) else gA τ b i) ∧ (∀ i, i ≠ 23 → gI τ1 i = gI τ i) ∧ τ1.2.1 = τ.2.1 ∧ τ1.2.2.2 = τ.2.2.2
theorem settle_L {n p : Nat} (hn : n ≤ 6) : ∀ (m N j : Nat) (τ1 : ST), j + m = n - 1 → p ≤ j → m < N → 0 < n → MvD τ n p j τ1 → ∃ τ2, MD_settle_L109 N (nI j) τ1 = some (0, τ2) ∧ MvD τ n p (n - 1) τ2
  | 0, N + 1, j, τ1, hj, _, _, _, h => by
    show ∃ τ2, MD_settle_b109 _ _ _ = _ ∧ _
    unfold MD_settle_b109
    rw [h.1, if_pos (nI_le (by omega) (by omega))]
    have e : j = n - 1 := by omega
    subst e
    exact ⟨_, rfl, h⟩
  | m + 1, N + 1, j, τ1, hj, hp, hN, h0, h => by
    show ∃ τ2, MD_settle_b109 _ _ _ = _ ∧ _
    unfold MD_settle_b109
    obtain ⟨h1, h2, h3, h4, h5⟩ := h
    rw [h1, if_neg (nI_ge (show j < n - 1 by omega) (by omega))]
    simp only [nI_1, nmS, nI_clamp (show j < 2 ^ 31 by omega), nI_clamp (show j + 1 < 2 ^ 31 by omega), if_neg (gin (show j < 6 by omega)), if_neg (gin (show j + 1 < 6 by omega))]
    refine settle_L hn m N (j + 1) _ (by omega) (by omega) (by omega) h0 ⟨h1, fun b i => ?_, fun i hi => h3 i hi, h4, h5⟩
    have hb : b = 21 ∨ b = 22 ∨ b = 23 ∨ b = 24 ∨ b = 25 ∨ b = 26 ∨ (b < 21 ∨ 26 < b) := by omega
    rcases hb with rfl | rfl | rfl | rfl | rfl | rfl | hb
    iterate 6
      · by_cases hi : i = j
        · subst hi
          simp only [gA_sA, reduceIte, Nat.reduceEqDiff]
          rw [h2, if_neg (fun z => by omega), if_pos ⟨by decide, hp, by omega⟩]
        · simp only [gA_sA, if_neg hi, reduceIte, Nat.reduceEqDiff]
          rw [h2]
          by_cases hc : p ≤ i ∧ i < j
          · rw [if_pos ⟨by decide, hc⟩, if_pos ⟨by decide, hc.1, by omega⟩]
          · rw [if_neg (fun z => hc z.2), if_neg (fun z => hc ⟨z.2.1, by omega⟩)]
    · rw [gA_ne (by omega), gA_ne (by omega), gA_ne (by omega), gA_ne (by omega), gA_ne (by omega), gA_ne (by omega), h2, if_neg (fun z => by omega), if_neg (fun z => by omega)]
  | m, 0, j, τ1, hj, _, hN, _, _ => by omega
theorem MvD.sub {p : Nat} (hp : p < nD τ) (h12 : nD τ ≤ 6) (h : MvD τ (nD τ) p (nD τ - 1) τ') : OSubD τ τ' ((List.range (nD τ)).eraseIdx p) := by
  obtain ⟨h1, h2, h3, h4, h5⟩ := h
  have hl : ((List.range (nD τ)).eraseIdx p).length = nD τ - 1 := by rw [List.length_eraseIdx_of_lt (by rw [List.length_range]; exact hp), List.length_range]
  refine ⟨by rw [hl]; exact h1, fun b j b1 b2 hj => ?_, h3, h4, fun b i hb => ?_, h5⟩
  · rw [hl] at hj
    rw [h2, xg_er]
    by_cases hc : j < p
    · rw [if_neg (fun z => by omega), if_pos hc, xg_range (by omega)]
    · rw [if_pos ⟨⟨b1, b2⟩, by omega, hj⟩, if_neg hc, xg_range (by omega)]
  · rw [h2, if_neg (fun z => by omega)]
end FIN
