section ROOT
variable {eE : Nat × Nat} {μ ν σ σ' τ τ' : ST} {K L : Nat}
def bas (a : Nat) : Nat := a * (11 - a) / 2
def rwo (t : Nat) : Nat := if t < 5 then 0 else if t < 9 then 1 else if t < 12 then 2 else if t < 14 then 3 else 4
def clo (t : Nat) : Nat := rwo t + 1 + (t - bas (rwo t))
theorem bas_s : ∀ a, a < 6 → bas (a + 1) = bas a + (5 - a) := by decide
theorem rwo_of : ∀ a, a < 6 → ∀ t, t < 15 → bas a ≤ t → t < bas (a + 1) → rwo t = a := by decide
theorem rc_ok : ∀ t, t < 15 → rwo t < clo t ∧ clo t < 6 ∧ rwo t < 6 ∧ bas (rwo t) ≤ t := by decide
def lnw (τ : ST) (x y : Nat) : Int32 := gA τ 12 x + 31 * gA τ 13 x + 17 * gA τ 13 y + (if gA τ 14 x = 0 then 0 else 1000003) + (if gA τ 14 y = 0 then 0 else 2000003)
def lnv (τ : ST) (n : Nat) : Int32 := lnw τ (12 * rwo (n / 2) + 2 * clo (n / 2) + n % 2) (12 * clo (n / 2) + 2 * rwo (n / 2) + n % 2)
def ofl (τ : ST) (j : Nat) : Int32 := gA τ 15 j + 64 * gA τ 16 j + 512 * (gA τ 17 j + 13 * gA τ 18 j) + 100003 * gA τ 19 j + 7 * gA τ 20 j
def dpl (τ : ST) (j : Nat) : Int32 := gA τ 21 j + 64 * (gA τ 22 j + 6 * gA τ 23 j) + 3001 * gA τ 24 j + 11 * gA τ 25 j + 13 * gA τ 26 j
def lf (τ : ST) (i : Nat) : Int32 := if i < 6 then (if gA τ 8 i = 0 then 0 else gA τ 9 i * 1024 + gA τ 10 i + 300007 * gA τ 11 i) else if i < 36 then lnv τ (i - 6) else if i < 48 then (if i - 36 < nO τ then ofl τ (i - 36) else 0) else (if i - 48 < nD τ then dpl τ (i - 48) else 0)
theorem LN_leaf_eq (hC : Core eE μ ν σ τ) {a b c : Nat} (ha : a < 6) (hb : b < 6) (hc : c < 2) : LN_leaf (nI a) (nI b) (nI (c + 1)) σ = some (lnw τ (12 * a + 2 * b + c) (12 * b + 2 * a + c)) := by
  unfold LN_leaf LN_leaf_c61
  have h1 : 12 * a + 2 * b + c < 72 := by omega
  have h2 : 12 * b + 2 * a + c < 72 := by omega
  rw [LN_side_eq ha hb hc, LN_side_eq hb ha hc]
  simp only [bd1, nI_clamp (lt31 h1), if_neg (gin h1), nI_clamp (lt31 h2), if_neg (gin h2), (hC.2.2.1 _ h1).1, (hC.2.2.1 _ h1).2.1, (hC.2.2.1 _ h1).2.2, (hC.2.2.1 _ h2).2.1, (hC.2.2.1 _ h2).2.2]
  unfold lnw
  by_cases c1 : gA τ 14 (12 * a + 2 * b + c) = 0
  · by_cases c2 : gA τ 14 (12 * b + 2 * a + c) = 0
    · simp only [if_pos c1, if_pos c2]
    · simp only [if_pos c1, if_neg c2]
  · by_cases c2 : gA τ 14 (12 * b + 2 * a + c) = 0
    · simp only [if_neg c1, if_pos c2]
    · simp only [if_neg c1, if_neg c2]
/-! the reference's line leaf -/
theorem ll_in {c t a : Nat} (hc : c < 2) (ha : a < 6) (ht : t < 15) {kb : Int32 → Int32 → Int32 → Int32 → ST → Option Int32} : ∀ (m N b : Nat), b + m = 6 → m < N → a < b → bas a + (b - a - 1) ≤ t → MD_lineLeaf_L29 kb N (nI t) (nI (c + 1)) (nI (bas a + (b - a - 1))) (nI a) (nI b) τ = if t < bas (a + 1) then some (lnw τ (12 * a + 2 * (a + 1 + (t - bas a)) + c) (12 * (a + 1 + (t - bas a)) + 2 * a + c)) else kb (nI t) (nI (c + 1)) (nI (bas (a + 1))) (nI (a + 1)) τ
  | 0, N + 1, b, hb, _, hab, hp => by
    have e := bas_s a ha
    show MD_lineLeaf_b29 _ _ _ _ _ _ _ _ = _
    unfold MD_lineLeaf_b29
    rw [if_pos (show (6 : Int32) ≤ nI b from nI_le (a := 6) (by omega) (by omega)), if_neg (by omega), nI_1, e]
    congr 2
    omega
  | m + 1, N + 1, b, hb, hN, hab, hp => by
    have e := bas_s a ha
    have e15 : bas a + (b - a - 1) < 2 ^ 31 := by omega
    show MD_lineLeaf_b29 _ _ _ _ _ _ _ _ = _
    unfold MD_lineLeaf_b29
    rw [if_neg (show ¬ (6 : Int32) ≤ nI b from nI_ge (b := 6) (by omega) (by omega))]
    by_cases ct : bas a + (b - a - 1) = t
    · rw [if_pos (by rw [ct]), if_pos (by omega), MD_line_eq ha (show b < 6 by omega) hc, MD_line_eq (show b < 6 by omega) ha hc]
      have eb : a + 1 + (t - bas a) = b := by omega
      have h1 : 12 * a + 2 * b + c < 72 := by omega
      have h2 : 12 * b + 2 * a + c < 72 := by omega
      rw [eb]
      unfold MD_lineLeaf_c107 lnw
      simp only [bd1, nI_clamp (lt31 h1), if_neg (gin h1), nI_clamp (lt31 h2), if_neg (gin h2)]
      by_cases c1 : gA τ 14 (12 * a + 2 * b + c) = 0
      · by_cases c2 : gA τ 14 (12 * b + 2 * a + c) = 0
        · simp only [if_pos c1, if_pos c2]
        · simp only [if_pos c1, if_neg c2]
      · by_cases c2 : gA τ 14 (12 * b + 2 * a + c) = 0
        · simp only [if_neg c1, if_pos c2]
        · simp only [if_neg c1, if_neg c2]
    · rw [if_neg (fun z => ct ((nI_eq e15 (by omega)).mp z)), nI_1, nI_1, show bas a + (b - a - 1) + 1 = bas a + (b + 1 - a - 1) by omega]
      exact ll_in hc ha ht m N (b + 1) (by omega) (by omega) (by omega) (by omega)
theorem ll_out {c t : Nat} (hc : c < 2) (ht : t < 15) : ∀ (m N a : Nat), a + m = 5 → m < N → bas a ≤ t → MD_lineLeaf_L16 N (nI t) (nI (c + 1)) (nI (bas a)) (nI a) τ = some (lnw τ (12 * rwo t + 2 * clo t + c) (12 * clo t + 2 * rwo t + c))
  | m, N + 1, a, ha, hN, hp => by
    have e := bas_s a (by omega)
    have q := ll_in (τ := τ) hc (show a < 6 by omega) ht (kb := fun x2 x3 x4 x5 σ => MD_lineLeaf_L16 N x2 x3 x4 x5 σ) (5 - a) FU (a + 1) (by omega) (by rw [FUv]; omega) (by omega) (by omega)
    rw [show bas a + (a + 1 - a - 1) = bas a by omega] at q
    show MD_lineLeaf_b16 _ _ _ _ _ _ = _
    unfold MD_lineLeaf_b16
    rw [if_neg (show ¬ (6 : Int32) ≤ nI a from nI_ge (b := 6) (by omega) (by omega))]
    simp only [nmI, nI_1, q]
    by_cases ct : t < bas (a + 1)
    · have er := rwo_of a (by omega) t ht hp ct
      rw [if_pos ct]
      unfold clo
      rw [er]
    · rw [if_neg ct]
      match m, ha, hN with
      | 0, ha, _ =>
        have : a = 5 := by omega
        subst this
        have : bas 5 = 15 := by decide
        omega
      | m + 1, ha, hN => exact ll_out hc ht m N (a + 1) (by omega) (by omega) (by omega)
theorem b00 : 0 = bas 0 := by decide
theorem MD_lineLeaf_eq {n : Nat} (hn : n < 30) : MD_lineLeaf (nI n) τ = some (lnv τ n) := by
  unfold MD_lineLeaf
  have e1 : nI n / 2 = nI (n / 2) := pk_div (d := 2) (by omega) (by decide) (by decide)
  have e2 : (1 : Int32) + imod (nI n) 2 = nI (n % 2 + 1) := by
    unfold imod
    rw [show (2 : Int32) = nI 2 by decide, pk_rem (by omega) (by decide) (by decide), show (1 : Int32) = nI 1 by decide, nI_add, Nat.add_comm]
  simp only [nmI, e1, e2]
  have := ll_out (τ := τ) (c := n % 2) (t := n / 2) (by omega) (by omega) 5 FU 0 rfl (by rw [FUv]; decide) (b00 ▸ Nat.zero_le _)
  exact this
theorem MD_leaf_eq (hG : Good K L τ) {i : Nat} (hi : i < 64) : MD_leaf (nI i) τ = some (lf τ i) := by
  have hn := hG.2.2.2.2.1.2.1
  have hd := hG.2.2.2.2.2.2.1
  have g1 := hG.2.2.2.2.1.1
  have g2 := hG.2.2.2.2.2.1
  unfold MD_leaf lf
  have hi' : i < 2 ^ 31 := by omega
  by_cases h6 : i < 6
  · rw [if_pos h6, if_neg (show ¬ (6 : Int32) ≤ nI i from nI_ge (b := 6) (by omega) (by omega))]
    simp only [nI_clamp hi', if_neg (gin h6)]
    by_cases h8 : gA τ 8 i = 0
    · rw [if_pos h8, if_pos h8]
    · rw [if_neg h8, if_neg h8]
  · rw [if_neg h6, if_pos (show (6 : Int32) ≤ nI i from nI_le (a := 6) (by omega) (by omega))]
    by_cases h36 : i < 36
    · rw [if_pos h36, if_neg (show ¬ (36 : Int32) ≤ nI i from nI_ge (b := 36) (by omega) (by omega))]
      have e : nI i - 6 = nI (i - 6) := pk_sub (b := 6) (by omega)
      rw [e, MD_lineLeaf_eq (by omega)]
      rfl
    · rw [if_neg h36, if_pos (show (36 : Int32) ≤ nI i from nI_le (a := 36) (by omega) (by omega))]
      by_cases h48 : i < 48
      · rw [if_pos h48, if_neg (show ¬ (48 : Int32) ≤ nI i from nI_ge (b := 48) (by omega) (by omega))]
        have e : nI i - 36 = nI (i - 36) := pk_sub (b := 36) (by omega)
        simp only [nmI, e, g1, nI_clamp (show i - 36 < 2 ^ 31 by omega), if_neg (gin (show i - 36 < 12 by omega))]
        by_cases hj : i - 36 < nO τ
        · rw [if_pos hj, if_pos (nI_lt hj (by omega))]
          rfl
        · rw [if_neg hj, if_neg (nI_nlt (by omega) (by omega))]
      · rw [if_neg h48, if_pos (show (48 : Int32) ≤ nI i from nI_le (a := 48) (by omega) (by omega))]
        have e : nI i - 48 = nI (i - 48) := pk_sub (b := 48) (by omega)
        simp only [nmI, e, g2, nI_clamp (show i - 48 < 2 ^ 31 by omega)]
        by_cases hj : i - 48 < nD τ
        · rw [if_pos hj, if_pos (nI_lt hj (by omega)), if_neg (gin (show i - 48 < 6 by omega))]
          rfl
        · rw [if_neg hj, if_neg (nI_nlt (by omega) (by omega))]
/-! the class's row -/
def Rw (τ σ : ST) (m : Nat) : Prop := ∀ i, i < 64 → gA σ 7 i = if i < m then lf τ i else 0
theorem Rw.set {m : Nat} {v : Int32} (h : Rw τ σ m) (hv : v = lf τ m) : Rw τ (sA σ 7 m v) (m + 1) := by
  intro i hi
  by_cases c : i = m
  · subst c
    rw [gA_eq, if_pos (by omega), hv]
  · rw [gA_nj c, h i hi]
    by_cases c2 : i < m
    · rw [if_pos c2, if_pos (by omega)]
    · rw [if_neg c2, if_neg (by omega)]
theorem Rw.skip {m m' : Nat} (h : Rw τ σ m) (hm : m ≤ m') (hz : ∀ i, m ≤ i → i < m' → lf τ i = 0) : Rw τ σ m' := by
  intro i hi
  rw [h i hi]
  by_cases c : i < m
  · rw [if_pos c, if_pos (by omega)]
  · rw [if_neg c]
    by_cases c2 : i < m'
    · rw [if_pos c2, hz i (by omega) c2]
    · rw [if_neg c2]
theorem fill0 : ∀ (m N i : Nat) (σ : ST), i + m = 64 → m < N → Core eE μ ν σ τ → (∀ j, j < i → gA σ 7 j = 0) → ∃ σ1, AR_fill_L5 N 0 (nI i) (nI 64) σ = some σ1 ∧ Core eE μ ν σ1 τ ∧ Rw τ σ1 0
  | 0, N + 1, i, σ, hi, _, hC, hz => by
    show ∃ σ1, AR_fill_b5 _ _ _ _ _ = _ ∧ _
    unfold AR_fill_b5
    rw [if_pos (nI_le (by omega) (by omega))]
    exact ⟨σ, rfl, hC, fun j hj => by rw [if_neg (by omega)]; exact hz j (by omega)⟩
  | m + 1, N + 1, i, σ, hi, hN, hC, hz => by
    show ∃ σ1, AR_fill_b5 _ _ _ _ _ = _ ∧ _
    unfold AR_fill_b5
    rw [if_neg (nI_ge (show i < 64 by omega) (by omega))]
    simp only [nI_clamp (show i < 2 ^ 31 by omega), if_neg (gin (show i < 64 by omega)), nmS, nI_1]
    refine fill0 m N (i + 1) _ (by omega) (by omega) (c_sA (by decide) hC) (fun j hj => ?_)
    by_cases c : j = i
    · rw [c, gA_eq]
    · rw [gA_nj c]
      exact hz j (by omega)
theorem fillD (hG : Good K L τ) : ∀ (m N j : Nat) (σ : ST), j + m = nD τ → m < N → Core eE μ ν σ τ → Rw τ σ (48 + j) → ∃ σ1, LV_fill_L95 N (nI j) σ = some σ1 ∧ Core eE μ ν σ1 τ ∧ Rw τ σ1 64
  | 0, N + 1, j, σ, hj, _, hC, hr => by
    have hd := hG.2.2.2.2.2.2.1
    show ∃ σ1, LV_fill_b95 _ _ _ = _ ∧ _
    unfold LV_fill_b95
    rw [szD hC hG]
    simp only [bd1, if_pos (nI_le (show nD τ ≤ j by omega) (by omega))]
    refine ⟨σ, rfl, hC, hr.skip (by omega) (fun i h1 h2 => ?_)⟩
    unfold lf
    rw [if_neg (by omega), if_neg (by omega), if_neg (by omega), if_neg (by omega)]
  | m + 1, N + 1, j, σ, hj, hN, hC, hr => by
    have hd := hG.2.2.2.2.2.2.1
    have hj' : j < nD τ := by omega
    obtain ⟨_, f1, g0, g1, g2, g3, g4, g5⟩ := hC.2.2.2.2.1.2.1 j hj'
    show ∃ σ1, LV_fill_b95 _ _ _ = _ ∧ _
    unfold LV_fill_b95 DP_leaf
    rw [szD hC hG, dep_rd hC hG hj']
    have e48 : (48 : Int32) + nI j = nI (48 + j) := nI_add 48 j
    have h64 : 48 + j < 64 := by omega
    simp only [bd1, if_neg (nI_ge hj' (by omega)), if_neg (show ¬ (6 : Int32) ≤ nI j from nI_ge (b := 6) (by omega) (by omega)), gd_ok f1, g0, g1, g2, g3, g4, g5, e48, nI_clamp (lt31 h64), if_neg (gin h64), nmS, nI_1]
    refine fillD hG m N (j + 1) _ (by omega) (by omega) (c_sA (by decide) hC) (hr.set ?_)
    unfold lf
    rw [if_neg (by omega), if_neg (by omega), if_neg (by omega), show 48 + j - 48 = j by omega, if_pos hj']
    rfl
theorem fillO (hG : Good K L τ) : ∀ (m N j : Nat) (σ : ST), j + m = nO τ → m < N → Core eE μ ν σ τ → Rw τ σ (36 + j) → ∃ σ1, LV_fill_L47 N (nI j) σ = some σ1 ∧ Core eE μ ν σ1 τ ∧ Rw τ σ1 64
  | 0, N + 1, j, σ, hj, _, hC, hr => by
    have hn := hG.2.2.2.2.1.2.1
    have hd := hG.2.2.2.2.2.2.1
    show ∃ σ1, LV_fill_b47 _ _ _ = _ ∧ _
    unfold LV_fill_b47
    rw [szO hC hG]
    simp only [bd1, if_pos (nI_le (show nO τ ≤ j by omega) (by omega))]
    refine fillD hG (nD τ) FU 0 σ (by omega) (by rw [FUv]; omega) hC (hr.skip (by omega) (fun i h1 h2 => ?_))
    unfold lf
    rw [if_neg (by omega), if_neg (by omega), if_pos (by omega), if_neg (by omega)]
  | m + 1, N + 1, j, σ, hj, hN, hC, hr => by
    have hn := hG.2.2.2.2.1.2.1
    have hj' : j < nO τ := by omega
    obtain ⟨_, f1, g0, g1, g2, g3, g4, g5⟩ := hC.2.2.2.1.2.1 j hj'
    show ∃ σ1, LV_fill_b47 _ _ _ = _ ∧ _
    unfold LV_fill_b47 OF_leaf
    rw [szO hC hG, off_rd hC hG hj']
    have e36 : (36 : Int32) + nI j = nI (36 + j) := nI_add 36 j
    have h64 : 36 + j < 64 := by omega
    simp only [bd1, if_neg (nI_ge hj' (by omega)), if_neg (show ¬ (12 : Int32) ≤ nI j from nI_ge (b := 12) (by omega) (by omega)), gd_ok f1, g0, g1, g2, g3, g4, g5, e36, nI_clamp (lt31 h64), if_neg (gin h64), nmS, nI_1]
    refine fillO hG m N (j + 1) _ (by omega) (by omega) (c_sA (by decide) hC) (hr.set ?_)
    unfold lf
    rw [if_neg (by omega), if_neg (by omega), if_pos (by omega), show 36 + j - 36 = j by omega, if_pos hj']
    rfl
theorem lf_ln {a b c : Nat} (ha : a < 6) (hab : a < b) (hb : b < 6) (hc : c < 2) : lf τ (6 + 2 * (bas a + (b - a - 1)) + c) = lnw τ (12 * a + 2 * b + c) (12 * b + 2 * a + c) := by
  have e := bas_s a ha
  have le : bas (a + 1) ≤ 15 := (by decide : ∀ a, a < 6 → bas (a + 1) ≤ 15) a ha
  have er := rwo_of a ha (bas a + (b - a - 1)) (by omega) (by omega) (by omega)
  unfold lf lnv clo
  rw [if_neg (by omega), if_pos (by omega), show (6 + 2 * (bas a + (b - a - 1)) + c - 6) / 2 = bas a + (b - a - 1) by omega, show (6 + 2 * (bas a + (b - a - 1)) + c - 6) % 2 = c by omega, er, show a + 1 + (bas a + (b - a - 1) - bas a) = b by omega]
theorem fl_in {a : Nat} (ha : a < 6) {kb : Int32 → Int32 → ST → Option ST} : ∀ (m N b : Nat) (σ : ST), b + m = 6 → m < N → a < b → Core eE μ ν σ τ → Rw τ σ (6 + 2 * (bas a + (b - a - 1))) → ∃ σ1, LV_fillLines_L16 kb N (nI (6 + 2 * (bas a + (b - a - 1)))) (nI a) (nI b) σ = kb (nI (6 + 2 * bas (a + 1))) (nI (a + 1)) σ1 ∧ Core eE μ ν σ1 τ ∧ Rw τ σ1 (6 + 2 * bas (a + 1))
  | 0, N + 1, b, σ, hb, _, hab, hC, hr => by
    have e := bas_s a ha
    show ∃ σ1, LV_fillLines_b16 _ _ _ _ _ _ = _ ∧ _
    unfold LV_fillLines_b16
    rw [if_pos (show (6 : Int32) ≤ nI b from nI_le (a := 6) (by omega) (by omega)), nI_1]
    have : bas a + (b - a - 1) = bas (a + 1) := by omega
    rw [this] at hr ⊢
    exact ⟨σ, rfl, hC, hr⟩
  | m + 1, N + 1, b, σ, hb, hN, hab, hC, hr => by
    have e := bas_s a ha
    have le : bas (a + 1) ≤ 15 := (by decide : ∀ a, a < 6 → bas (a + 1) ≤ 15) a ha
    show ∃ σ1, LV_fillLines_b16 _ _ _ _ _ _ = _ ∧ _
    unfold LV_fillLines_b16
    rw [if_neg (show ¬ (6 : Int32) ≤ nI b from nI_ge (b := 6) (by omega) (by omega))]
    have h1 : 6 + 2 * (bas a + (b - a - 1)) < 64 := by omega
    have h2 : 6 + 2 * (bas a + (b - a - 1)) + 1 < 64 := by omega
    have l1 := LN_leaf_eq hC ha (show b < 6 by omega) (c := 0) (by decide)
    have hC1 : Core eE μ ν (sA σ 7 (6 + 2 * (bas a + (b - a - 1))) (lnw τ (12 * a + 2 * b + 0) (12 * b + 2 * a + 0))) τ := c_sA (by decide) hC
    have l2 := LN_leaf_eq hC1 ha (show b < 6 by omega) (c := 1) (by decide)
    rw [show nI (0 + 1) = 1 by decide] at l1
    rw [show nI (1 + 1) = 2 by decide] at l2
    simp only [l1, bd1, nI_clamp (lt31 h1), if_neg (gin h1), nmS, l2, nI_1, nI_clamp (lt31 h2), if_neg (gin h2), nI_p2]
    have r1 := hr.set (v := lnw τ (12 * a + 2 * b + 0) (12 * b + 2 * a + 0)) (lf_ln (c := 0) ha hab (by omega) (by decide)).symm
    have r2 := r1.set (v := lnw τ (12 * a + 2 * b + 1) (12 * b + 2 * a + 1)) (lf_ln (c := 1) ha hab (by omega) (by decide)).symm
    have e3 : 6 + 2 * (bas a + (b - a - 1)) + 2 = 6 + 2 * (bas a + (b + 1 - a - 1)) := by omega
    rw [e3] at r2 ⊢
    exact fl_in ha m N (b + 1) _ (by omega) (by omega) (by omega) (c_sA (by decide) hC1) r2
theorem fl_out : ∀ (m N a : Nat) (σ : ST), a + m = 6 → m < N → Core eE μ ν σ τ → Rw τ σ (6 + 2 * bas a) → ∃ σ1, LV_fillLines_L5 N (nI (6 + 2 * bas a)) (nI a) σ = some σ1 ∧ Core eE μ ν σ1 τ ∧ Rw τ σ1 36
  | 0, N + 1, a, σ, ha, _, hC, hr => by
    show ∃ σ1, LV_fillLines_b5 _ _ _ _ = _ ∧ _
    unfold LV_fillLines_b5
    have : a = 6 := by omega
    subst this
    rw [if_pos (show (6 : Int32) ≤ nI 6 by decide)]
    exact ⟨σ, rfl, hC, hr⟩
  | m + 1, N + 1, a, σ, ha, hN, hC, hr => by
    show ∃ σ1, LV_fillLines_b5 _ _ _ _ = _ ∧ _
    unfold LV_fillLines_b5
    rw [if_neg (show ¬ (6 : Int32) ≤ nI a from nI_ge (b := 6) (by omega) (by omega))]
    simp only [nmI, nI_1]
    have r0 : Rw τ σ (6 + 2 * (bas a + (a + 1 - a - 1))) := by rw [show a + 1 - a - 1 = 0 by omega, Nat.add_zero]; exact hr
    obtain ⟨σ1, e, hC1, hr1⟩ := fl_in (show a < 6 by omega) (kb := fun x2 x3 σ => LV_fillLines_L5 N x2 x3 σ) (5 - a) FU (a + 1) σ (by omega) (by rw [FUv]; omega) (by omega) hC r0
    rw [show a + 1 - a - 1 = 0 by omega, Nat.add_zero] at e
    rw [e]
    exact fl_out m N (a + 1) σ1 (by omega) (by omega) hC1 hr1
theorem fillA (hG : Good K L τ) : ∀ (m N i : Nat) (σ : ST), i + m = 6 → m < N → Core eE μ ν σ τ → Rw τ σ i → ∃ σ1, LV_fill_L10 N (nI i) σ = some σ1 ∧ Core eE μ ν σ1 τ ∧ Rw τ σ1 64
  | 0, N + 1, i, σ, hi, _, hC, hr => by
    have hn := hG.2.2.2.2.1.2.1
    show ∃ σ1, LV_fill_b10 _ _ _ = _ ∧ _
    unfold LV_fill_b10 LV_fillLines
    have : i = 6 := by omega
    subst this
    rw [if_pos (show (6 : Int32) ≤ nI 6 by decide)]
    obtain ⟨σ1, e, hC1, hr1⟩ := fl_out 6 FU 0 σ (by omega) (by rw [FUv]; omega) hC hr
    have e' : LV_fillLines_L5 FU 6 0 σ = some σ1 := e
    rw [e']
    exact fillO hG (nO τ) FU 0 σ1 (by omega) (by rw [FUv]; omega) hC1 hr1
  | m + 1, N + 1, i, σ, hi, hN, hC, hr => by
    have h6 : i < 6 := by omega
    obtain ⟨r1, r2⟩ := acc_rd hC h6
    rw [nI_clamp (lt31 h6)] at r1
    obtain ⟨_, _, f0, f1, f3, f2⟩ := hC.2.1.1 i h6
    show ∃ σ1, LV_fill_b10 _ _ _ = _ ∧ _
    unfold LV_fill_b10 AC_leaf
    rw [if_neg (show ¬ (6 : Int32) ≤ nI i from nI_ge (b := 6) (by omega) (by omega))]
    simp only [nI_clamp (lt31 h6), if_neg (gin h6), if_neg (gin (show i < 64 by omega)), r1, bd1, gd_ok r2, f0, f1, f3, f2, nmS, nI_1]
    by_cases h8 : gA τ 8 i = 0
    · simp only [if_pos h8]
      refine fillA hG m N (i + 1) _ (by omega) (by omega) (c_sA (by decide) hC) (hr.set ?_)
      unfold lf
      rw [if_pos h6, if_pos h8]
    · simp only [if_neg h8]
      refine fillA hG m N (i + 1) _ (by omega) (by omega) (c_sA (by decide) hC) (hr.set ?_)
      unfold lf
      rw [if_pos h6, if_neg h8]
/-! folding -/
def mix (h z : Int32) : Int32 := (31 * h + z) ^^^ ushr (31 * h + z) 11
def innF (τ : ST) : Nat → Nat → Int32 → Int32
  | 0, _, h => h
  | m + 1, s, h => innF τ m (s + 1) (mix h (lf τ s))
theorem lf_cg {b i : Nat} {v : Int32} (hb : 27 ≤ b) : lf (sA τ b i v) = lf τ := by
  funext k
  have e : ∀ a, a < 27 → gA (sA τ b i v) a = gA τ a := fun a ha => by
    funext j
    exact gA_ne (by omega)
  have e1 : nO (sA τ b i v) = nO τ := rfl
  have e2 : nD (sA τ b i v) = nD τ := rfl
  unfold lf lnv lnw ofl dpl
  rw [e1, e2, e 8 (by decide), e 9 (by decide), e 10 (by decide), e 11 (by decide), e 12 (by decide), e 13 (by decide), e 14 (by decide), e 15 (by decide), e 16 (by decide), e 17 (by decide), e 18 (by decide), e 19 (by decide), e 20 (by decide), e 21 (by decide), e 22 (by decide), e 23 (by decide), e 24 (by decide), e 25 (by decide), e 26 (by decide)]
theorem innF_cg (h : lf τ' = lf τ) : ∀ m s x, innF τ' m s x = innF τ m s x
  | 0, _, _ => rfl
  | m + 1, s, x => by
    show innF τ' m (s + 1) (mix x (lf τ' s)) = innF τ m (s + 1) (mix x (lf τ s))
    rw [h]
    exact innF_cg h m (s + 1) _
theorem inn_c {f : Nat} (hf : f + 16 ≤ 64) (hr : Rw τ σ 64) : ∀ (m N i : Nat) (h : Int32), i + m = f + 16 → f ≤ i → m < N → LV_inner_L5 N (nI f) h (nI i) σ = some (innF τ m i h)
  | 0, N + 1, i, h, hi, _, _ => by
    show LV_inner_b5 _ _ _ _ _ = _
    unfold LV_inner_b5
    have e : nI f + 16 = nI (f + 16) := nI_add f 16
    rw [e, if_pos (nI_le (by omega) (by omega))]
    rfl
  | m + 1, N + 1, i, h, hi, hfi, hN => by
    show LV_inner_b5 _ _ _ _ _ = _
    unfold LV_inner_b5 LV_mix
    have e : nI f + 16 = nI (f + 16) := nI_add f 16
    have h64 : i < 64 := by omega
    rw [e, if_neg (nI_ge (show i < f + 16 by omega) (by omega))]
    simp only [nI_clamp (lt31 h64), if_neg (gin h64), nmI, bd1, nI_1, hr i h64, if_pos h64]
    exact inn_c hf hr m N (i + 1) _ (by omega) (by omega) (by omega)
def fldF (τ : ST) : Nat → Nat → Int32 → Int32
  | 0, _, h => h
  | m + 1, n, h => fldF τ m (n + 1) (mix h (innF τ 16 (16 * n) 7))
theorem fld_c (hr : Rw τ σ 64) : ∀ (m N n : Nat) (h : Int32), n + m = 4 → m < N → LV_fold_L5 N h (nI (16 * n)) σ = some (fldF τ m n h)
  | 0, N + 1, n, h, hn, _ => by
    show LV_fold_b5 _ _ _ _ = _
    unfold LV_fold_b5
    rw [if_pos (show (64 : Int32) ≤ nI (16 * n) from nI_le (a := 64) (by omega) (by omega))]
    rfl
  | m + 1, N + 1, n, h, hn, hN => by
    show LV_fold_b5 _ _ _ _ = _
    unfold LV_fold_b5 LV_inner LV_mix
    rw [if_neg (show ¬ (64 : Int32) ≤ nI (16 * n) from nI_ge (b := 64) (by omega) (by omega)), inn_c (by omega) hr 16 FU (16 * n) 7 (by omega) (Nat.le_refl _) (by rw [FUv]; omega)]
    have e : nI (16 * n) + 16 = nI (16 * (n + 1)) := nI_add (16 * n) 16
    simp only [bd1, nmI, e]
    exact fld_c hr m N (n + 1) _ (by omega) (by omega)
theorem inn_m {n : Nat} (hn : n < 4) {kb : Int32 → Int32 → ST → Option (Int32 × ST)} {x : Int32} : ∀ (m N k : Nat) (τ : ST), k + m = 16 → m < N → Core eE μ ν σ τ → Good K L τ → ∃ τ1, MD_root_L20 kb N x (nI n) (nI k) τ = kb (mix x (innF τ m (16 * n + k) (gA τ 31 n))) (nI (n + 1)) τ1 ∧ Core eE μ ν σ τ1 ∧ Good K L τ1 ∧ lf τ1 = lf τ
  | 0, N + 1, k, τ, hk, _, hC, hG => by
    show ∃ τ1, MD_root_b20 _ _ _ _ _ _ = _ ∧ _
    unfold MD_root_b20 MD_join
    rw [if_pos (show (16 : Int32) ≤ nI k from nI_le (a := 16) (by omega) (by omega))]
    simp only [nI_clamp (lt31 hn), if_neg (gin hn), bd1, nmI, nI_1]
    exact ⟨τ, rfl, hC, hG, rfl⟩
  | m + 1, N + 1, k, τ, hk, hN, hC, hG => by
    show ∃ τ1, MD_root_b20 _ _ _ _ _ _ = _ ∧ _
    unfold MD_root_b20 MD_join
    have e : (16 : Int32) * nI n + nI k = nI (16 * n + k) := by
      rw [show (16 : Int32) = nI 16 by decide, pk_mul, nI_add]
    rw [if_neg (show ¬ (16 : Int32) ≤ nI k from nI_ge (b := 16) (by omega) (by omega)), e, MD_leaf_eq hG (by omega)]
    simp only [nI_clamp (lt31 hn), if_neg (gin hn), bd1, nmI, nmS, nI_1]
    obtain ⟨τ1, e1, hC1, hG1, hl⟩ := inn_m hn (kb := kb) (x := x) m N (k + 1) (sA τ 31 n (mix (gA τ 31 n) (lf τ (16 * n + k)))) (by omega) (by omega) (m_sA (by decide) hC) (g_sA (by decide) hG)
    refine ⟨τ1, ?_, hC1, hG1, hl.trans (lf_cg (by decide))⟩
    rw [gA_eq, innF_cg (lf_cg (by decide))] at e1
    exact e1
theorem fld_m : ∀ (m N n : Nat) (h : Int32) (τ : ST), n + m = 4 → m < N → Core eE μ ν σ τ → Good K L τ → ∃ τ1, MD_root_L5 N h (nI n) τ = some (fldF τ m n h, τ1) ∧ Core eE μ ν σ τ1 ∧ Good K L τ1
  | 0, N + 1, n, h, τ, hn, _, hC, hG => by
    show ∃ τ1, MD_root_b5 _ _ _ _ = _ ∧ _
    unfold MD_root_b5
    rw [if_pos (show (4 : Int32) ≤ nI n from nI_le (a := 4) (by omega) (by omega))]
    exact ⟨τ, rfl, hC, hG⟩
  | m + 1, N + 1, n, h, τ, hn, hN, hC, hG => by
    show ∃ τ1, MD_root_b5 _ _ _ _ = _ ∧ _
    unfold MD_root_b5
    have h4 : n < 4 := by omega
    rw [if_neg (show ¬ (4 : Int32) ≤ nI n from nI_ge (b := 4) (by omega) (by omega))]
    simp only [nI_clamp (lt31 h4), if_neg (gin h4), nmS]
    obtain ⟨τ1, e1, hC1, hG1, hl⟩ := inn_m h4 (kb := fun x1 x2 σ => MD_root_L5 N x1 x2 σ) (x := h) 16 FU 0 (sA τ 31 n 7) (by omega) (by rw [FUv]; omega) (m_sA (by decide) hC) (g_sA (by decide) hG)
    have e1' : MD_root_L20 (fun x1 x2 σ => MD_root_L5 N x1 x2 σ) FU h (nI n) 0 (sA τ 31 n 7) = _ := e1
    rw [e1', gA_eq, innF_cg (lf_cg (by decide)), Nat.add_zero]
    obtain ⟨τ2, e2, hC2, hG2⟩ := fld_m m N (n + 1) (mix h (innF τ 16 (16 * n) 7)) τ1 (by omega) (by omega) hC1 hG1
    have hl2 : lf τ1 = lf τ := hl.trans (lf_cg (by decide))
    have e3 : ∀ m n h, fldF τ1 m n h = fldF τ m n h := by
      intro m
      induction m with
      | zero => intro n h; rfl
      | succ m ih =>
        intro n h
        show fldF τ1 m (n + 1) _ = fldF τ m (n + 1) _
        rw [innF_cg hl2, ih]
    rw [e3] at e2
    exact ⟨τ2, e2, hC2, hG2⟩
theorem s_root (hC : Core eE μ ν σ τ) (hG : Good K L τ) : ∃ (r : Int32) (σ1 τ1 : ST), TL_root σ = some (r, σ1) ∧ MD_root τ = some (r, τ1) ∧ Core eE μ ν σ1 τ1 ∧ Good K L τ1 := by
  unfold TL_root LV_fill AR_fill LV_fold MD_root
  obtain ⟨σ1, e1, hC1, hr1⟩ := fill0 (τ := τ) 64 FU 0 σ (by omega) (by rw [FUv]; omega) hC (fun j hj => absurd hj (Nat.not_lt_zero _))
  obtain ⟨σ2, e2, hC2, hr2⟩ := fillA hG 6 FU 0 σ1 (by omega) (by rw [FUv]; omega) hC1 hr1
  have e3 := fld_c hr2 4 FU 0 7 (by omega) (by rw [FUv]; omega)
  obtain ⟨τ1, e4, hC4, hG4⟩ := fld_m 4 FU 0 7 τ (by omega) (by rw [FUv]; omega) hC2 hG
  have e1' : AR_fill_L5 FU 0 0 (nI 64) σ = some σ1 := e1
  have e2' : LV_fill_L10 FU 0 σ1 = some σ2 := e2
  have e3' : LV_fold_L5 FU 7 0 σ2 = some (fldF τ 4 0 7) := e3
  have e4' : MD_root_L5 FU 7 0 τ = some (fldF τ 4 0 7, τ1) := e4
  simp only [nmI, e1', e2', e3', e4', bd1]
  exact ⟨_, _, _, rfl, rfl, hC4, hG4⟩
end ROOT
