section CLS
variable {eE : Nat × Nat} {μ ν σ σ' τ τ' : ST} {K L : Nat}
theorem lmin_eq {a b : Nat} (ha : a < 2 ^ 63) (hb : b < 2 ^ 63) : lmin (lN a) (lN b) = lN (min a b) := by
  unfold lmin
  by_cases h : b < a
  · rw [if_pos ((pk_lLT hb ha).mpr h), Nat.min_eq_right (by omega)]
  · rw [if_neg (fun z => h ((pk_lLT hb ha).mp z)), Nat.min_eq_left (by omega)]
def stA (t : Nat) (_ : Nat) (s : PZ) : Bool := decide (t ≤ zT s)
def vA (τ : ST) (me k t j : Nat) (s : PZ) : Nat := min (t - zT s) (min (gN τ j) (mov τ me k j s))
def sfA (τ : ST) (me x k : Nat) (f : Nat → Nat) (t j : Nat) (s : PZ) : PZ := stp τ me x k f j (vA τ me k t j s) s
def plA (τ : ST) (me x k : Nat) (f b : Nat → Nat) (n t : Nat) : PZ := pln (stA t) (sfA τ me x k f t) b n 0 (ps0 f)
def stC (τ : ST) (w0 g0 : Nat) (j : Nat) (s : PZ) : Bool := decide (w0 ≤ zT s ∨ g0 * gN τ j < wN τ j * w0)
def mC (τ : ST) (me x g0 F j : Nat) (s : PZ) : Nat := min (g0 - zP s) (1000 * (F - zC s) / (1000 + rt τ x me (oN τ j)))
def cC (τ : ST) (me x w0 g0 F j : Nat) (s : PZ) : Nat := min (w0 - zT s) (mC τ me x g0 F j s * gN τ j / wN τ j)
def vC (τ : ST) (me x k w0 g0 F j : Nat) (s : PZ) : Nat := min (cC τ me x w0 g0 F j s) (min (gN τ j) (mov τ me k j s))
def sfC (τ : ST) (me x k : Nat) (f : Nat → Nat) (w0 g0 F j : Nat) (s : PZ) : PZ := stp τ me x k f j (vC τ me x k w0 g0 F j s) s
def plC (τ : ST) (me x k : Nat) (f b : Nat → Nat) (n w0 g0 F : Nat) : PZ := pln (stC τ w0 g0) (sfC τ me x k f w0 g0 F) b n 0 (ps0 f)
def IA (τ : ST) (f b : Nat → Nat) (t : Nat) (s : PZ) : Prop := PB τ f b s ∧ zT s ≤ t
def IC (τ : ST) (f b : Nat → Nat) (w0 g0 F : Nat) (s : PZ) : Prop := PB τ f b s ∧ zT s ≤ w0 ∧ zP s ≤ g0 ∧ zC s ≤ F
theorem IA.step {x0 k0 a0 : Int32} {me x k n t : Nat} {f b : Nat → Nat} {s : PZ} (hG : Good K L τ) (hR : Row τ x0 k0 a0 (nO τ) b n) (h : IA τ f b t s) (hp : zR s < n) : IA τ f b t (sfA τ me x k f t (b (zR s)) s) := by
  refine ⟨h.1.step hG hR hp (by unfold vA; omega) (by unfold vA; omega), ?_⟩
  show zT s + vA τ me k t (b (zR s)) s ≤ t
  have := h.2
  unfold vA
  omega
theorem vC_m (me x k w0 g0 F j : Nat) (s : PZ) : vC τ me x k w0 g0 F j s ≤ gN τ j ∧ vC τ me x k w0 g0 F j s ≤ mov τ me k j s ∧ vC τ me x k w0 g0 F j s ≤ w0 - zT s ∧ vC τ me x k w0 g0 F j s ≤ mC τ me x g0 F j s * gN τ j / wN τ j := by
  unfold vC cC
  omega
theorem IC.step {x0 k0 a0 : Int32} {me x k n w0 g0 F : Nat} {f b : Nat → Nat} {s : PZ} (hG : Good K L τ) (hR : Row τ x0 k0 a0 (nO τ) b n) (h : IC τ f b w0 g0 F s) (hp : zR s < n) : IC τ f b w0 g0 F (sfC τ me x k f w0 g0 F (b (zR s)) s) := by
  obtain ⟨v1, v2, v3, v4⟩ := vC_m (τ := τ) me x k w0 g0 F (b (zR s)) s
  obtain ⟨h1, h2, h3, h4⟩ := h
  have hj := (hR.2.1 _ hp).1
  have hpr := (prc_iff hG hj).mpr v4
  refine ⟨h1.step hG hR hp v1 v2, ?_, ?_, ?_⟩
  · show zT s + vC τ me x k w0 g0 F (b (zR s)) s ≤ w0
    omega
  · show zP s + prc τ (b (zR s)) (vC τ me x k w0 g0 F (b (zR s)) s) ≤ g0
    unfold mC at hpr
    omega
  · show zC s + cst (rt τ x me (oN τ (b (zR s)))) (prc τ (b (zR s)) (vC τ me x k w0 g0 F (b (zR s)) s)) ≤ F
    have : cst (rt τ x me (oN τ (b (zR s)))) (prc τ (b (zR s)) (vC τ me x k w0 g0 F (b (zR s)) s)) ≤ F - zC s := cst_iff.mpr (by unfold mC at hpr; omega)
    omega
/-- what holds step by step holds at the end -/
theorem pln_ind {st : Nat → PZ → Bool} {sf : Nat → PZ → PZ} {b : Nat → Nat} {n : Nat} (P : PZ → Prop) (hz : ∀ j s, zR (sf j s) = zR s + 1) (hs : ∀ s, P s → zR s < n → P (sf (b (zR s)) s)) : ∀ (m : Nat) (s : PZ), zR s + m = n → P s → P (pln st sf b m (zR s) s) ∧ zR (pln st sf b m (zR s) s) ≤ n
  | 0, s, hm, h => ⟨h, by show zR s ≤ n; omega⟩
  | m + 1, s, hm, h => by
    show P (if st (b (zR s)) s = true then s else pln st sf b m (zR s + 1) (sf (b (zR s)) s)) ∧ zR (if st (b (zR s)) s = true then s else pln st sf b m (zR s + 1) (sf (b (zR s)) s)) ≤ n
    by_cases c : st (b (zR s)) s = true
    · rw [if_pos c]
      exact ⟨h, by omega⟩
    · rw [if_neg c, ← hz (b (zR s)) s]
      exact pln_ind P hz hs m _ (by rw [hz]; omega) (hs s h (by omega))
theorem plA_I {x0 k0 a0 : Int32} {me x k n t : Nat} {f b : Nat → Nat} (hG : Good K L τ) (hR : Row τ x0 k0 a0 (nO τ) b n) : IA τ f b t (plA τ me x k f b n t) ∧ zR (plA τ me x k f b n t) ≤ n :=
  pln_ind (n := n) (IA τ f b t) (fun _ _ => rfl) (fun s h hp => h.step hG hR hp) n (ps0 f) (Nat.zero_add n) ⟨PB0, Nat.zero_le _⟩
theorem plC_I {x0 k0 a0 : Int32} {me x k n w0 g0 F : Nat} {f b : Nat → Nat} (hG : Good K L τ) (hR : Row τ x0 k0 a0 (nO τ) b n) : IC τ f b w0 g0 F (plC τ me x k f b n w0 g0 F) ∧ zR (plC τ me x k f b n w0 g0 F) ≤ n :=
  pln_ind (n := n) (IC τ f b w0 g0 F) (fun _ _ => rfl) (fun s h hp => h.step hG hR hp) n (ps0 f) (Nat.zero_add n) ⟨PB0, Nat.zero_le _, Nat.zero_le _, Nat.zero_le _⟩
/-! the class sets out -/
theorem open_L (hG : Good K L τ) {me x k n : Nat} {b : Nat → Nat} (hk : k < 13) : ∀ (m N i : Nat) (σ : ST), i + m = 6 → m < N → Core eE μ ν σ τ → gI σ 10 = nI me → gI σ 11 = nI x → gI σ 12 = nI k → Bk σ b n → (∀ o, o < i → gA σ 5 o = nI (fnd τ o k)) → ∃ σ1, TK_open_L35 N (nI k) (nI i) σ = some σ1 ∧ Core eE μ ν σ1 τ ∧ CX σ1 me x k (fun o => fnd τ o k) b n
  | 0, N + 1, i, σ, hi, _, hC, e1, e2, e3, hB, h5 => by
    show ∃ σ1, TK_open_b35 _ _ _ _ = some σ1 ∧ _
    unfold TK_open_b35
    rw [if_pos (show (6 : Int32) ≤ nI i from nI_le (a := 6) (by omega) (by omega))]
    exact ⟨σ, rfl, hC, e1, e2, e3, hB, fun o ho => h5 o (by omega)⟩
  | m + 1, N + 1, i, σ, hi, hN, hC, e1, e2, e3, hB, h5 => by
    have hi6 : i < 6 := by omega
    show ∃ σ1, TK_open_b35 _ _ _ _ = some σ1 ∧ _
    unfold TK_open_b35
    rw [if_neg (show ¬ (6 : Int32) ≤ nI i from nI_ge (b := 6) (by omega) (by omega)), ST_fundsOf_eq hC hG hi6 hk]
    simp only [bd1, nI_clamp (lt31 hi6), if_neg (gin hi6), nmS, nI_1]
    refine open_L hG hk m N (i + 1) (sA σ 5 i (nI (fnd τ i k))) (by omega) (by omega) (c_sA (by decide) hC) e1 e2 e3 hB (fun o ho => ?_)
    by_cases c : o = i
    · rw [c, gA_eq]
    · rw [gA_nj c]
      exact h5 o (by omega)
theorem open_ok (hC : Core eE μ ν σ τ) (hG : Good K L τ) {me x k : Nat} (hk : k < 13) : ∃ (σ1 : ST) (b : Nat → Nat) (n : Nat), TK_open (nI me) (nI x) (nI k) σ = some σ1 ∧ Core eE μ ν σ1 τ ∧ Row τ (nI x) (nI k) (nI me) (nO τ) b n ∧ CX σ1 me x k (fun o => fnd τ o k) b n := by
  unfold TK_open
  simp only [nmS]
  have hC1 : Core eE μ ν (sI (sI (sI σ 10 (nI me)) 11 (nI x)) 12 (nI k)) τ := c_sI (by decide) (c_sI (by decide) (c_sI (by decide) hC))
  obtain ⟨σ1, b, n, e, hC2, hF, hR, hB⟩ := gather_ok hC1 hG (nI x) (nI k) (nI me)
  simp only [e, bd1]
  obtain ⟨σ2, e2, hC3, hX⟩ := open_L hG (me := me) (x := x) (n := n) (b := b) hk 6 FU 0 σ1 (by omega) (by rw [FUv]; omega) hC2 (hF.1 10 (by decide)) (hF.1 11 (by decide)) (hF.1 12 (by decide)) hB (fun o ho => absurd ho (Nat.not_lt_zero _))
  exact ⟨σ2, b, n, e2, hC3, hR, hX⟩
theorem start_ok {me x k n : Nat} {f b : Nat → Nat} (hC : Core eE μ ν σ τ) (hX : CX σ me x k f b n) : ∃ σ1, TK_startPlan σ = some σ1 ∧ Core eE μ ν σ1 τ ∧ CX σ1 me x k f b n ∧ CP σ1 b (ps0 f) := by
  obtain ⟨x1, x2, x3, x4, x5⟩ := hX
  have z0 : (0 : Int32).toNatClampNeg = 0 := by decide
  have z6 : (6 : Int32).toNatClampNeg = 6 := by decide
  unfold TK_startPlan
  simp only [nmS, z0, z6]
  refine ⟨_, rfl, c_sI (by decide) (c_sI (by decide) (c_sI (by decide) (c_sI (by decide) (c_sW (by decide) hC)))), ⟨x1, x2, x3, x4, fun o ho => ?_⟩, ⟨?_, ?_, ?_, ?_, fun o ho => ?_, fun p hp => absurd hp (Nat.not_lt_zero _)⟩⟩
  · rw [gA_sI, gA_sI, gA_sI, gA_sI, gA_sW, if_neg (by decide)]
    exact x5 o ho
  · simp only [gI_sI, reduceIte, Nat.reduceEqDiff]
    rfl
  · simp only [gI_sI, reduceIte, Nat.reduceEqDiff]
    rfl
  · simp only [gI_sI, reduceIte, Nat.reduceEqDiff]
    rfl
  · simp only [gI_sI, reduceIte, Nat.reduceEqDiff]
    rfl
  · rw [gA_sI, gA_sI, gA_sI, gA_sI, gA_sW, if_pos rfl, pk_cpy_in (Nat.zero_le _) (by omega)]
    show gA σ 5 (0 + (o - 0)) = nI (f o)
    rw [Nat.zero_add, Nat.sub_zero]
    exact x5 o ho
/-! the class's two plans -/
theorem planAll_L {x0 k0 a0 : Int32} {me x k n t : Nat} {f b : Nat → Nat} (hG : Good K L τ) (hR : Row τ x0 k0 a0 (nO τ) b n) (hf : ∀ o, f o < 2 ^ 31) (hme : me < 6) (hx : x < 13) (hk : k < 13) (ht : t ≤ 1000000) : ∀ (m N : Nat) (σ : ST) (s : PZ), zR s + m = n → m < N → Core eE μ ν σ τ → CX σ me x k f b n → CP σ b s → IA τ f b t s → ∃ σ1, TK_planAll_L6 N (nI t) (nI (zR s)) σ = some σ1 ∧ Core eE μ ν σ1 τ ∧ CX σ1 me x k f b n ∧ CP σ1 b (pln (stA t) (sfA τ me x k f t) b m (zR s) s)
  | 0, N + 1, σ, s, hm, _, hC, hX, hP, hI => by
    have hn := hG.2.2.2.2.1.2.1
    have hs := hR.2.2.2
    show ∃ σ1, TK_planAll_b6 _ _ _ _ = some σ1 ∧ _
    unfold TK_planAll_b6
    rw [hX.2.2.2.1.1, if_pos (nI_le (show n ≤ zR s by omega) (by omega))]
    exact ⟨σ, rfl, hC, hX, hP⟩
  | m + 1, N + 1, σ, s, hm, hN, hC, hX, hP, hI => by
    have hn := hG.2.2.2.2.1.2.1
    have hs := hR.2.2.2
    have hp : zR s < n := by omega
    have hT : zT s ≤ t := hI.2
    show ∃ σ1, TK_planAll_b6 _ _ _ _ = some σ1 ∧ Core eE μ ν σ1 τ ∧ CX σ1 me x k f b n ∧ CP σ1 b (if stA t (b (zR s)) s = true then s else pln (stA t) (sfA τ me x k f t) b m (zR s + 1) (sfA τ me x k f t (b (zR s)) s))
    unfold TK_planAll_b6
    rw [hX.2.2.2.1.1, if_neg (nI_ge hp (by omega)), hP.2.1]
    by_cases c : t ≤ zT s
    · rw [if_pos (nI_le c (by omega)), if_pos (show stA t (b (zR s)) s = true from decide_eq_true c)]
      exact ⟨σ, rfl, hC, hX, hP⟩
    · rw [if_neg (nI_ge (by omega) (by omega)), if_neg (show ¬ stA t (b (zR s)) s = true from fun z => c (of_decide_eq_true z)), pk_sub (by omega)]
      obtain ⟨σ1, e, hC1, hX1, hP1⟩ := go_ok (cap := t - zT s) hC hG hR hX hP hI.1 hf hme hx hk hp (by omega)
      simp only [e, bd1, nI_1]
      exact planAll_L hG hR hf hme hx hk ht m N σ1 (sfA τ me x k f t (b (zR s)) s) (by show zR s + 1 + m = n; omega) (by omega) hC1 hX1 hP1 (hI.step hG hR hp)
theorem planAll_ok {x0 k0 a0 : Int32} {me x k n t : Nat} {f b : Nat → Nat} (hC : Core eE μ ν σ τ) (hG : Good K L τ) (hR : Row τ x0 k0 a0 (nO τ) b n) (hX : CX σ me x k f b n) (hf : ∀ o, f o < 2 ^ 31) (hme : me < 6) (hx : x < 13) (hk : k < 13) (ht : t ≤ 1000000) : ∃ σ1, TK_planAll (nI t) σ = some σ1 ∧ Core eE μ ν σ1 τ ∧ CX σ1 me x k f b n ∧ CP σ1 b (plA τ me x k f b n t) := by
  have hn := hG.2.2.2.2.1.2.1
  have hs := hR.2.2.2
  obtain ⟨σ1, e1, hC1, hX1, hP1⟩ := start_ok hC hX
  unfold TK_planAll
  simp only [e1, bd1]
  exact planAll_L hG hR hf hme hx hk ht n FU σ1 (ps0 f) (Nat.zero_add n) (by rw [FUv]; omega) hC1 hX1 hP1 ⟨PB0, Nat.zero_le _⟩
theorem planC_L {x0 k0 a0 : Int32} {me x k n w0 g0 F : Nat} {f b : Nat → Nat} (hG : Good K L τ) (hR : Row τ x0 k0 a0 (nO τ) b n) (hf : ∀ o, f o < 2 ^ 31) (hme : me < 6) (hx : x < 13) (hk : k < 13) (hw : w0 ≤ 100000) (hg : g0 ≤ 100000) (hF : F < 2 ^ 31) : ∀ (m N : Nat) (σ : ST) (s : PZ), zR s + m = n → m < N → Core eE μ ν σ τ → CX σ me x k f b n → CP σ b s → IC τ f b w0 g0 F s → ∃ σ1, TK_planCrossing_L7 N (nI w0) (nI g0) (nI F) (nI (zR s)) σ = some σ1 ∧ Core eE μ ν σ1 τ ∧ CX σ1 me x k f b n ∧ CP σ1 b (pln (stC τ w0 g0) (sfC τ me x k f w0 g0 F) b m (zR s) s)
  | 0, N + 1, σ, s, hm, _, hC, hX, hP, hI => by
    have hn := hG.2.2.2.2.1.2.1
    have hs := hR.2.2.2
    show ∃ σ1, TK_planCrossing_b7 _ _ _ _ _ _ = some σ1 ∧ _
    unfold TK_planCrossing_b7
    rw [hX.2.2.2.1.1, if_pos (nI_le (show n ≤ zR s by omega) (by omega))]
    exact ⟨σ, rfl, hC, hX, hP⟩
  | m + 1, N + 1, σ, s, hm, hN, hC, hX, hP, hI => by
    have hn := hG.2.2.2.2.1.2.1
    have hs := hR.2.2.2
    have hp : zR s < n := by omega
    obtain ⟨i1, i2, i3, i4⟩ := hI
    have hj := (hR.2.1 _ hp).1
    obtain ⟨_, f1, _, fo, _, fw, _, fg⟩ := hC.2.2.2.1.2.1 _ hj
    obtain ⟨eo, ho⟩ := oN_ok hG hj
    obtain ⟨ew, hw1, hw2⟩ := wN_ok hG hj
    obtain ⟨eg, hg1, hg2⟩ := gN_ok hG hj
    have m1 : wN τ (b (zR s)) * w0 ≤ 100000 * 100000 := Nat.mul_le_mul hw2 hw
    have m2 : g0 * gN τ (b (zR s)) ≤ 100000 * 100000 := Nat.mul_le_mul hg hg2
    have ecr : TK_isCrossed (oq σ (b (zR s))) (nI w0) (nI g0) σ = some (if g0 * gN τ (b (zR s)) < wN τ (b (zR s)) * w0 then 0 else 1) := by
      unfold TK_isCrossed
      simp only [gd_ok f1, fw, fg, ew, eg, nI_l (show wN τ (b (zR s)) < 2 ^ 31 by omega), nI_l (show gN τ (b (zR s)) < 2 ^ 31 by omega), nI_l (show w0 < 2 ^ 31 by omega), nI_l (show g0 < 2 ^ 31 by omega), lN_mul]
      by_cases c : g0 * gN τ (b (zR s)) < wN τ (b (zR s)) * w0
      · rw [if_pos c, if_pos ((lg_cmp_gt _ _).mpr ((pk_lLT (by omega) (by omega)).mpr c))]
      · rw [if_neg c, if_neg (fun z => c ((pk_lLT (by omega) (by omega)).mp ((lg_cmp_gt _ _).mp z)))]
    show ∃ σ1, TK_planCrossing_b7 _ _ _ _ _ _ = some σ1 ∧ Core eE μ ν σ1 τ ∧ CX σ1 me x k f b n ∧ CP σ1 b (if stC τ w0 g0 (b (zR s)) s = true then s else pln (stC τ w0 g0) (sfC τ me x k f w0 g0 F) b m (zR s + 1) (sfC τ me x k f w0 g0 F (b (zR s)) s))
    unfold TK_planCrossing_b7
    rw [hX.2.2.2.1.1, if_neg (nI_ge hp (by omega)), hP.2.1]
    by_cases c : w0 ≤ zT s
    · rw [if_pos (nI_le c (by omega)), if_pos (show stC τ w0 g0 (b (zR s)) s = true from decide_eq_true (Or.inl c))]
      exact ⟨σ, rfl, hC, hX, hP⟩
    · rw [if_neg (nI_ge (by omega) (by omega))]
      simp only [nI_clamp (show zR s < 2 ^ 31 by omega), if_neg (gin (show zR s < 12 by omega)), hX.2.2.2.1.2 _ hp, bd1, ecr]
      by_cases c2 : g0 * gN τ (b (zR s)) < wN τ (b (zR s)) * w0
      · rw [if_pos c2, if_pos rfl, if_pos (show stC τ w0 g0 (b (zR s)) s = true from decide_eq_true (Or.inr c2))]
        exact ⟨σ, rfl, hC, hX, hP⟩
      · rw [if_neg c2, if_neg (show ¬ stC τ w0 g0 (b (zR s)) s = true from fun z => (of_decide_eq_true z).elim c c2)]
        have emm := ST_mostMovable_eq hC hG.gr (P := F - zC s) (k := x) (a := me) (b := oN τ (b (zR s))) (by omega) hx hme ho
        have hmm : 1000 * (F - zC s) / (1000 + rt τ x me (oN τ (b (zR s)))) < 2 ^ 31 := by
          have : 1000 * (F - zC s) / (1000 + rt τ x me (oN τ (b (zR s)))) ≤ 1000 * (F - zC s) / 1000 := Nat.div_le_div_left (by omega) (by decide)
          omega
        have eim : imin (nI (g0 - zP s)) (nI (1000 * (F - zC s) / (1000 + rt τ x me (oN τ (b (zR s)))))) = nI (mC τ me x g0 F (b (zR s)) s) := imin_eq (by omega) hmm
        have hmC : mC τ me x g0 F (b (zR s)) s ≤ 100000 := by unfold mC; omega
        have emf := OF_mostFor_eq hC hG hj hmC
        have hq : mC τ me x g0 F (b (zR s)) s * gN τ (b (zR s)) / wN τ (b (zR s)) < 2 ^ 63 := by
          have h1 : mC τ me x g0 F (b (zR s)) s * gN τ (b (zR s)) ≤ 100000 * 100000 := Nat.mul_le_mul hmC hg2
          have h2 := Nat.div_le_self (mC τ me x g0 F (b (zR s)) s * gN τ (b (zR s))) (wN τ (b (zR s)))
          omega
        have ecap : (lmin ((nI w0 - nI (zT s)).toInt64) (lN (mC τ me x g0 F (b (zR s)) s * gN τ (b (zR s)) / wN τ (b (zR s))))).toInt32 = nI (cC τ me x w0 g0 F (b (zR s)) s) := by
          rw [pk_sub i2, nI_l (by omega), lmin_eq (by omega) hq, lN_i]
          rfl
        have hcap : cC τ me x w0 g0 F (b (zR s)) s < 2 ^ 31 := by unfold cC; omega
        obtain ⟨σ1, e, hC1, hX1, hP1⟩ := go_ok (cap := cC τ me x w0 g0 F (b (zR s)) s) hC hG hR hX hP i1 hf hme hx hk hp hcap
        simp only [i10, if_false, gd_ok f1, fo, eo, hP.2.2.1, hP.2.2.2.1, hX.1, hX.2.1, pk_sub i3, pk_sub i4, emm, eim, emf, ecap, e, nI_1]
        exact planC_L hG hR hf hme hx hk hw hg hF m N σ1 (sfC τ me x k f w0 g0 F (b (zR s)) s) (by show zR s + 1 + m = n; omega) (by omega) hC1 hX1 hP1 (IC.step hG hR ⟨i1, i2, i3, i4⟩ hp)
theorem planC_ok {x0 k0 a0 : Int32} {me x k n w0 g0 F : Nat} {f b : Nat → Nat} (hC : Core eE μ ν σ τ) (hG : Good K L τ) (hR : Row τ x0 k0 a0 (nO τ) b n) (hX : CX σ me x k f b n) (hf : ∀ o, f o < 2 ^ 31) (hme : me < 6) (hx : x < 13) (hk : k < 13) (hw : w0 ≤ 100000) (hg : g0 ≤ 100000) (hF : F < 2 ^ 31) : ∃ σ1, TK_planCrossing (nI w0) (nI g0) (nI F) σ = some σ1 ∧ Core eE μ ν σ1 τ ∧ CX σ1 me x k f b n ∧ CP σ1 b (plC τ me x k f b n w0 g0 F) := by
  have hn := hG.2.2.2.2.1.2.1
  have hs := hR.2.2.2
  obtain ⟨σ1, e1, hC1, hX1, hP1⟩ := start_ok hC hX
  unfold TK_planCrossing
  simp only [e1, bd1]
  exact planC_L hG hR hf hme hx hk hw hg hF n FU σ1 (ps0 f) (Nat.zero_add n) (by rw [FUv]; omega) hC1 hX1 hP1 ⟨PB0, Nat.zero_le _, Nat.zero_le _, Nat.zero_le _⟩
end CLS
