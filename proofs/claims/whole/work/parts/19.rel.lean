/-! the relation between the class's cells and the reference's -/
def aq (σ : ST) (i : Nat) : Nat := (gR σ 0 i).getD 0
def oq (σ : ST) (j : Nat) : Nat := (pR σ (gE σ 0) j).getD 0
def dq (σ : ST) (j : Nat) : Nat := (pR σ (gE σ 1) j).getD 0
def nO (τ : ST) : Nat := (gI τ 21).toNatClampNeg
def nD (τ : ST) : Nat := (gI τ 23).toNatClampNeg
def CS (σ τ : ST) : Prop := gI σ 0 = gI τ 25 ∧ gI σ 1 = gI τ 26 ∧ gI σ 2 = gI τ 27 ∧ gI σ 3 = gI τ 28 ∧ gI σ 4 = gI τ 29 ∧ gI σ 5 = gI τ 30 ∧ gI σ 6 = gI τ 31 ∧ gI σ 7 = gI τ 22 ∧ gI σ 8 = gI τ 24 ∧ gI σ 18 = gI τ 21 ∧ gI σ 20 = gI τ 23
def CA (σ τ : ST) : Prop := (∀ i, i < 6 → gR σ 0 i = some (aq σ i) ∧ (aq σ i ∈ pL σ ∧ pK σ (aq σ i) = 1) ∧ pP σ (aq σ i) 0 = gA τ 8 i ∧ pP σ (aq σ i) 1 = gA τ 9 i ∧ pP σ (aq σ i) 3 = gA τ 11 i ∧ pP σ (aq σ i) 2 = (if gA τ 8 i = 0 then 1 else gA τ 10 i)) ∧ ∀ i j, i < 6 → j < 6 → aq σ i = aq σ j → i = j
def CL (σ τ : ST) : Prop := ∀ i, i < 72 → gA σ 0 i = gA τ 12 i ∧ gA σ 1 i = gA τ 13 i ∧ gA σ 2 i = gA τ 14 i
def CO (eE : Nat × Nat) (σ τ : ST) : Prop := LOk 0 2 eE σ (nO τ) ∧ (∀ j, j < nO τ → pR σ (gE σ 0) j = some (oq σ j) ∧ (oq σ j ∈ pL σ ∧ pK σ (oq σ j) = 2) ∧ pP σ (oq σ j) 0 = gA τ 15 j ∧ pP σ (oq σ j) 1 = gA τ 16 j ∧ pP σ (oq σ j) 2 = gA τ 17 j ∧ pP σ (oq σ j) 3 = gA τ 19 j ∧ pP σ (oq σ j) 4 = gA τ 18 j ∧ pP σ (oq σ j) 5 = gA τ 20 j) ∧ ∀ i j, i < nO τ → j < nO τ → oq σ i = oq σ j → i = j
def CD (eE : Nat × Nat) (σ τ : ST) : Prop := LOk 1 3 eE σ (nD τ) ∧ (∀ j, j < nD τ → pR σ (gE σ 1) j = some (dq σ j) ∧ (dq σ j ∈ pL σ ∧ pK σ (dq σ j) = 3) ∧ pP σ (dq σ j) 0 = gA τ 21 j ∧ pP σ (dq σ j) 1 = gA τ 22 j ∧ pP σ (dq σ j) 2 = gA τ 23 j ∧ pP σ (dq σ j) 3 = gA τ 24 j ∧ pP σ (dq σ j) 4 = gA τ 25 j ∧ pP σ (dq σ j) 5 = gA τ 26 j) ∧ ∀ i j, i < nD τ → j < nD τ → dq σ i = dq σ j → i = j
def CE (eE : Nat × Nat) (σ : ST) : Prop := (eE.1 ∈ pL σ → pK σ eE.1 ≠ 0) ∧ (gE σ 0 = gE σ 1 → gE σ 0 = eE.1)
def QM (μ σ : ST) : Prop := (∀ j, 21 ≤ j → gI σ j = gI μ j) ∧ (∀ j, gL σ j = gL μ j) ∧ (∀ a i, 8 ≤ a → gA σ a i = gA μ a i) ∧ ∀ i, gV σ i = gV μ i
def QT (ν τ : ST) : Prop := (∀ j, j < 21 → gI τ j = gI ν j) ∧ (∀ a i, a < 8 → gA τ a i = gA ν a i) ∧ τ.2.2.2.2 = ν.2.2.2.2
def Core (eE : Nat × Nat) (μ ν σ τ : ST) : Prop := CS σ τ ∧ CA σ τ ∧ CL σ τ ∧ CO eE σ τ ∧ CD eE σ τ ∧ CE eE σ ∧ QM μ σ ∧ QT ν τ
/-! what is known of the reference's cells alone -/
def Ab (K : Nat) (x : Int32) : Prop := -(K : Int) ≤ x.toInt ∧ x.toInt ≤ K
def GS (τ : ST) : Prop := (gI τ 25 = -1 ∨ ∃ a, a < 6 ∧ gI τ 25 = nI a) ∧ (∃ k, k < 13 ∧ gI τ 27 = nI k) ∧ (∃ m, 1 ≤ m ∧ m ≤ 1000000 ∧ gI τ 28 = nI m) ∧ (gI τ 29 = 0 ∨ gI τ 29 = 1)
def GA (K : Nat) (τ : ST) : Prop := ∀ i, i < 6 → (gA τ 8 i = 0 ∨ gA τ 8 i = 1) ∧ Ab K (gA τ 9 i) ∧ ∃ r, r ≤ 200 ∧ gA τ 11 i = nI r
def GL (K : Nat) (τ : ST) : Prop := ∀ i, i < 72 → Ab K (gA τ 12 i) ∧ ∃ m, m ≤ 100000 ∧ gA τ 13 i = nI m
def GQ (τ : ST) : Prop := ∀ a c, a < 6 → c < 2 → gA τ 14 (12 * a + 2 * a + c) = 0
def GO (L : Nat) (τ : ST) : Prop := gI τ 21 = nI (nO τ) ∧ nO τ ≤ 12 ∧ (∀ j, j < nO τ → (∃ d, 1 ≤ d ∧ d ≤ L ∧ gA τ 15 j = nI d) ∧ (∃ o, o < 6 ∧ gA τ 16 j = nI o) ∧ (∃ k, k < 13 ∧ gA τ 17 j = nI k) ∧ (∃ k, k < 13 ∧ gA τ 18 j = nI k) ∧ (∃ w, 1 ≤ w ∧ w ≤ 100000 ∧ gA τ 19 j = nI w) ∧ ∃ g, 1 ≤ g ∧ g ≤ 100000 ∧ gA τ 20 j = nI g) ∧ (∀ i j, i < j → j < nO τ → (gA τ 15 i).toInt < (gA τ 15 j).toInt) ∧ ∃ d, d ≤ L ∧ gI τ 22 = nI d ∧ ∀ j, j < nO τ → (gA τ 15 j).toInt ≤ d
def GD (L : Nat) (τ : ST) : Prop := gI τ 23 = nI (nD τ) ∧ nD τ ≤ 6 ∧ (∀ j, j < nD τ → (∃ d, 1 ≤ d ∧ d ≤ L ∧ gA τ 21 j = nI d) ∧ (∃ o, o < 6 ∧ gA τ 22 j = nI o) ∧ (∃ o, o < 6 ∧ gA τ 23 j = nI o) ∧ ∃ m, m ≤ 1000000 ∧ gA τ 24 j = nI m) ∧ (∀ i j, i < j → j < nD τ → (gA τ 21 i).toInt < (gA τ 21 j).toInt) ∧ ∃ d, d ≤ L ∧ gI τ 24 = nI d ∧ ∀ j, j < nD τ → (gA τ 21 j).toInt ≤ d
def Good (K L : Nat) (τ : ST) : Prop := GS τ ∧ GA K τ ∧ GL K τ ∧ GQ τ ∧ GO L τ ∧ GD L τ
def Inv (eE : Nat × Nat) (c : Nat) (σ : ST) : Prop := Core eE σ σ σ σ ∧ Good (1000000 + 4190000 * c) c σ
theorem Ab.mono {K K' : Nat} {x : Int32} (h : Ab K x) (hK : K ≤ K') : Ab K' x := ⟨by have := h.1; omega, by have := h.2; omega⟩
theorem GA.mono {K K' : Nat} {τ : ST} (h : GA K τ) (hK : K ≤ K') : GA K' τ := fun i hi => ⟨(h i hi).1, (h i hi).2.1.mono hK, (h i hi).2.2⟩
theorem GL.mono {K K' : Nat} {τ : ST} (h : GL K τ) (hK : K ≤ K') : GL K' τ := fun i hi => ⟨(h i hi).1.mono hK, (h i hi).2⟩
theorem GO.mono {L L' : Nat} {τ : ST} (h : GO L τ) (hL : L ≤ L') : GO L' τ := by
  obtain ⟨h1, h2, h3, h4, d, h5, h6, h7⟩ := h
  refine ⟨h1, h2, fun j hj => ?_, h4, d, by omega, h6, h7⟩
  obtain ⟨⟨d, a, b, e⟩, r⟩ := h3 j hj
  exact ⟨⟨d, a, by omega, e⟩, r⟩
theorem GD.mono {L L' : Nat} {τ : ST} (h : GD L τ) (hL : L ≤ L') : GD L' τ := by
  obtain ⟨h1, h2, h3, h4, d, h5, h6, h7⟩ := h
  refine ⟨h1, h2, fun j hj => ?_, h4, d, by omega, h6, h7⟩
  obtain ⟨⟨d, a, b, e⟩, r⟩ := h3 j hj
  exact ⟨⟨d, a, by omega, e⟩, r⟩
theorem Good.mono {K K' L L' : Nat} {τ : ST} (h : Good K L τ) (hK : K ≤ K') (hL : L ≤ L') : Good K' L' τ := ⟨h.1, h.2.1.mono hK, h.2.2.1.mono hK, h.2.2.2.1, h.2.2.2.2.1.mono hL, h.2.2.2.2.2.mono hL⟩
theorem Inv_mono (eE : Nat × Nat) (c : Nat) (σ : ST) (h : Inv eE c σ) : Inv eE (c + 1) σ := ⟨h.1, h.2.mono (by omega) (by omega)⟩
theorem QM.refl (σ : ST) : QM σ σ := ⟨fun _ _ => rfl, fun _ => rfl, fun _ _ _ => rfl, fun _ => rfl⟩
theorem QT.refl (σ : ST) : QT σ σ := ⟨fun _ _ => rfl, fun _ _ _ => rfl, rfl⟩
/-- the reference's side read in another state of the same reference cells -/
theorem core_m {eE : Nat × Nat} {σ τ τ' : ST} (h : CS σ τ ∧ CA σ τ ∧ CL σ τ ∧ CO eE σ τ ∧ CD eE σ τ) (hq : QM τ τ') : CS σ τ' ∧ CA σ τ' ∧ CL σ τ' ∧ CO eE σ τ' ∧ CD eE σ τ' := by
  obtain ⟨h1, h2, h3, h4, h5⟩ := h
  obtain ⟨q1, q2, q3, q4⟩ := hq
  have eO : nO τ' = nO τ := by unfold nO; rw [q1 21 (by decide)]
  have eD : nD τ' = nD τ := by unfold nD; rw [q1 23 (by decide)]
  refine ⟨?_, ?_, ?_, ?_, ?_⟩
  · unfold CS
    rw [q1 25 (by decide), q1 26 (by decide), q1 27 (by decide), q1 28 (by decide), q1 29 (by decide), q1 30 (by decide), q1 31 (by decide), q1 22 (by decide), q1 24 (by decide), q1 21 (by decide), q1 23 (by decide)]
    exact h1
  · unfold CA
    simp only [q3 8 _ (by decide), q3 9 _ (by decide), q3 10 _ (by decide), q3 11 _ (by decide)]
    exact h2
  · unfold CL
    simp only [q3 12 _ (by decide), q3 13 _ (by decide), q3 14 _ (by decide)]
    exact h3
  · unfold CO
    simp only [eO, q3 15 _ (by decide), q3 16 _ (by decide), q3 17 _ (by decide), q3 18 _ (by decide), q3 19 _ (by decide), q3 20 _ (by decide)]
    exact h4
  · unfold CD
    simp only [eD, q3 21 _ (by decide), q3 22 _ (by decide), q3 23 _ (by decide), q3 24 _ (by decide), q3 25 _ (by decide), q3 26 _ (by decide)]
    exact h5
theorem CO_congr {eE : Nat × Nat} {σ σ' τ : ST} (h : CO eE σ τ) (e1 : gE σ' = gE σ) (e2 : pL σ' = pL σ) (e3 : pK σ' = pK σ) (e4 : pP σ' = pP σ) (e5 : pC σ' = pC σ) (e6 : pR σ' = pR σ) : CO eE σ' τ := by
  unfold CO LOk oq allIn at h ⊢
  rw [e1, e2, e3, e4, e5, e6]
  exact h
theorem CD_congr {eE : Nat × Nat} {σ σ' τ : ST} (h : CD eE σ τ) (e1 : gE σ' = gE σ) (e2 : pL σ' = pL σ) (e3 : pK σ' = pK σ) (e4 : pP σ' = pP σ) (e5 : pC σ' = pC σ) (e6 : pR σ' = pR σ) : CD eE σ' τ := by
  unfold CD LOk dq allIn at h ⊢
  rw [e1, e2, e3, e4, e5, e6]
  exact h
theorem CA_congr {σ σ' τ : ST} (h : CA σ τ) (e1 : gR σ' 0 = gR σ 0) (e2 : pL σ' = pL σ) (e3 : pK σ' = pK σ) (e4 : pP σ' = pP σ) : CA σ' τ := by
  unfold CA aq at h ⊢
  rw [e1, e2, e3, e4]
  exact h
theorem CE_congr {eE : Nat × Nat} {σ σ' : ST} (h : CE eE σ) (e1 : gE σ' = gE σ) (e2 : pL σ' = pL σ) (e3 : pK σ' = pK σ) : CE eE σ' := by
  unfold CE at h ⊢
  rw [e1, e2, e3]
  exact h
theorem core_t {eE : Nat × Nat} {σ σ' τ : ST} (h : CS σ τ ∧ CA σ τ ∧ CL σ τ ∧ CO eE σ τ ∧ CD eE σ τ ∧ CE eE σ) (hq : QT σ σ') : CS σ' τ ∧ CA σ' τ ∧ CL σ' τ ∧ CO eE σ' τ ∧ CD eE σ' τ ∧ CE eE σ' := by
  obtain ⟨h1, h2, h3, h4, h5, h6⟩ := h
  obtain ⟨q1, q2, q3⟩ := hq
  have e1 : gE σ' = gE σ := by funext j; unfold gE; rw [q3]
  have e2 : pL σ' = pL σ := by unfold pL; rw [q3]
  have e3 : pK σ' = pK σ := by funext j; unfold pK; rw [q3]
  have e4 : pP σ' = pP σ := by funext j k; unfold pP; rw [q3]
  have e5 : pC σ' = pC σ := by funext j; unfold pC; rw [q3]
  have e6 : pR σ' = pR σ := by funext j k; unfold pR; rw [q3]
  have e7 : gR σ' = gR σ := by funext j k; unfold gR; rw [q3]
  refine ⟨?_, CA_congr h2 (congrFun e7 0) e2 e3 e4, ?_, CO_congr h4 e1 e2 e3 e4 e5 e6, CD_congr h5 e1 e2 e3 e4 e5 e6, CE_congr h6 e1 e2 e3⟩
  · unfold CS
    rw [q1 0 (by decide), q1 1 (by decide), q1 2 (by decide), q1 3 (by decide), q1 4 (by decide), q1 5 (by decide), q1 6 (by decide), q1 7 (by decide), q1 8 (by decide), q1 18 (by decide), q1 20 (by decide)]
    exact h1
  · unfold CL
    simp only [q2 0 _ (by decide), q2 1 _ (by decide), q2 2 _ (by decide)]
    exact h3
theorem Good_m {K L : Nat} {τ τ' : ST} (h : Good K L τ) (hq : QM τ τ') : Good K L τ' := by
  obtain ⟨h1, h2, h3, h4, h5, h6⟩ := h
  obtain ⟨q1, q2, q3, q4⟩ := hq
  have eO : nO τ' = nO τ := by unfold nO; rw [q1 21 (by decide)]
  have eD : nD τ' = nD τ := by unfold nD; rw [q1 23 (by decide)]
  refine ⟨?_, ?_, ?_, ?_, ?_, ?_⟩
  · unfold GS
    rw [q1 25 (by decide), q1 27 (by decide), q1 28 (by decide), q1 29 (by decide)]
    exact h1
  · unfold GA
    simp only [q3 8 _ (by decide), q3 9 _ (by decide), q3 11 _ (by decide)]
    exact h2
  · unfold GL
    simp only [q3 12 _ (by decide), q3 13 _ (by decide)]
    exact h3
  · unfold GQ
    simp only [q3 14 _ (by decide)]
    exact h4
  · unfold GO
    rw [eO, q1 21 (by decide), q1 22 (by decide)]
    simp only [q3 15 _ (by decide), q3 16 _ (by decide), q3 17 _ (by decide), q3 18 _ (by decide), q3 19 _ (by decide), q3 20 _ (by decide)]
    exact h5
  · unfold GD
    rw [eD, q1 23 (by decide), q1 24 (by decide)]
    simp only [q3 21 _ (by decide), q3 22 _ (by decide), q3 23 _ (by decide), q3 24 _ (by decide)]
    exact h6
/-- a step in lockstep gives a step in one state -/
theorem step_of {α : Type} {eE : Nat × Nat} {c : Nat} {σ : ST} {F G : ST → Option (α × ST)} (hI : Inv eE c σ) (hc : c < 512)
    (h : ∀ μ ν τ : ST, Core eE μ ν σ τ → Good (1000000 + 4190000 * c) c τ → ∃ (r : α) (σ1 τ1 : ST), F σ = some (r, σ1) ∧ G τ = some (r, τ1) ∧ Core eE μ ν σ1 τ1 ∧ Good (1000000 + 4190000 * (c + 1)) (c + 1) τ1) :
    ∃ (r : α) (σ1 σ2 : ST), F σ = some (r, σ1) ∧ G σ1 = some (r, σ2) ∧ Inv eE (c + 1) σ2 := by
  obtain ⟨hC, hG⟩ := hI
  obtain ⟨r, σ1, τ1, e1, e2, hC1, hG1⟩ := h σ σ σ hC hG
  have hq : QM σ σ1 := hC1.2.2.2.2.2.2.1
  obtain ⟨k1, k2, k3, k4, k5⟩ := core_m (τ' := σ1) ⟨hC.1, hC.2.1, hC.2.2.1, hC.2.2.2.1, hC.2.2.2.2.1⟩ hq
  obtain ⟨r', σ1', τ2, f1, f2, hC2, hG2⟩ := h σ σ1 σ1 ⟨k1, k2, k3, k4, k5, hC.2.2.2.2.2.1, QM.refl σ, QT.refl σ1⟩ (Good_m hG hq)
  rw [e1] at f1
  obtain ⟨rfl, rfl⟩ := Prod.mk.inj (Option.some.inj f1)
  obtain ⟨m1, m2, m3, m4, m5, m6⟩ := core_t (σ' := τ2) ⟨hC2.1, hC2.2.1, hC2.2.2.1, hC2.2.2.2.1, hC2.2.2.2.2.1, hC2.2.2.2.2.2.1⟩ hC2.2.2.2.2.2.2.2
  exact ⟨r, σ1, τ2, e1, f2, ⟨m1, m2, m3, m4, m5, m6, QM.refl τ2, QT.refl τ2⟩, hG2⟩
