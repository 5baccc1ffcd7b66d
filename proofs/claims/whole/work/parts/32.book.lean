section BOOK
variable {eE : Nat × Nat} {μ ν σ σ' τ τ' : ST} {K L : Nat}
def wN (τ : ST) (j : Nat) : Nat := (gA τ 19 j).toNatClampNeg
def gN (τ : ST) (j : Nat) : Nat := (gA τ 20 j).toNatClampNeg
def oN (τ : ST) (j : Nat) : Nat := (gA τ 16 j).toNatClampNeg
theorem wN_ok (hG : Good K L τ) {j : Nat} (hj : j < nO τ) : gA τ 19 j = nI (wN τ j) ∧ 1 ≤ wN τ j ∧ wN τ j ≤ 100000 := by
  obtain ⟨_, _, _, _, ⟨w, h1, h2, h3⟩, _⟩ := hG.2.2.2.2.1.2.2.1 j hj
  unfold wN
  rw [h3, nI_clamp (by omega)]
  exact ⟨rfl, h1, h2⟩
theorem gN_ok (hG : Good K L τ) {j : Nat} (hj : j < nO τ) : gA τ 20 j = nI (gN τ j) ∧ 1 ≤ gN τ j ∧ gN τ j ≤ 100000 := by
  obtain ⟨_, _, _, _, _, ⟨w, h1, h2, h3⟩⟩ := hG.2.2.2.2.1.2.2.1 j hj
  unfold gN
  rw [h3, nI_clamp (by omega)]
  exact ⟨rfl, h1, h2⟩
theorem oN_ok (hG : Good K L τ) {j : Nat} (hj : j < nO τ) : gA τ 16 j = nI (oN τ j) ∧ oN τ j < 6 := by
  obtain ⟨_, ⟨w, h1, h3⟩, _⟩ := hG.2.2.2.2.1.2.2.1 j hj
  unfold oN
  rw [h3, nI_clamp (by omega)]
  exact ⟨rfl, h1⟩
def bet (τ : ST) (i j : Nat) : Prop := wN τ i * gN τ j < wN τ j * gN τ i
def ahd (τ : ST) (i j : Nat) : Prop := wN τ i * gN τ j < wN τ j * gN τ i ∨ (wN τ i * gN τ j = wN τ j * gN τ i ∧ i < j)
theorem rt_le {a b c d e f : Nat} (hd : 0 < d) (h1 : a * d ≤ c * b) (h2 : c * f ≤ e * d) : a * f ≤ e * b := by
  apply Nat.le_of_mul_le_mul_right _ hd
  have x1 : a * d * f ≤ c * b * f := Nat.mul_le_mul_right f h1
  have x2 : c * f * b ≤ e * d * b := Nat.mul_le_mul_right b h2
  have y1 : a * d * f = a * f * d := Nat.mul_right_comm a d f
  have y2 : c * b * f = c * f * b := Nat.mul_right_comm c b f
  have y3 : e * d * b = e * b * d := Nat.mul_right_comm e d b
  omega
theorem rt_lt1 {a b c d e f : Nat} (hd : 0 < d) (hf : 0 < f) (h1 : a * d < c * b) (h2 : c * f ≤ e * d) : a * f < e * b := by
  apply Nat.lt_of_mul_lt_mul_right (a := d)
  have x1 : a * d * f < c * b * f := Nat.mul_lt_mul_of_pos_right h1 hf
  have x2 : c * f * b ≤ e * d * b := Nat.mul_le_mul_right b h2
  have y1 : a * d * f = a * f * d := Nat.mul_right_comm a d f
  have y2 : c * b * f = c * f * b := Nat.mul_right_comm c b f
  have y3 : e * d * b = e * b * d := Nat.mul_right_comm e d b
  omega
theorem rt_lt2 {a b c d e f : Nat} (hd : 0 < d) (hb : 0 < b) (h1 : a * d ≤ c * b) (h2 : c * f < e * d) : a * f < e * b := by
  apply Nat.lt_of_mul_lt_mul_right (a := d)
  have x1 : a * d * f ≤ c * b * f := Nat.mul_le_mul_right f h1
  have x2 : c * f * b < e * d * b := Nat.mul_lt_mul_of_pos_right h2 hb
  have y1 : a * d * f = a * f * d := Nat.mul_right_comm a d f
  have y2 : c * b * f = c * f * b := Nat.mul_right_comm c b f
  have y3 : e * d * b = e * b * d := Nat.mul_right_comm e d b
  omega
theorem ahd_le {i j : Nat} (h : ahd τ i j) : wN τ i * gN τ j ≤ wN τ j * gN τ i := by
  rcases h with h | h
  · omega
  · omega
theorem ahd_trans {i j k : Nat} (hi : 0 < gN τ i) (hj : 0 < gN τ j) (hk : 0 < gN τ k) (h1 : ahd τ i j) (h2 : ahd τ j k) : ahd τ i k := by
  rcases h1 with h1 | ⟨h1, l1⟩
  · exact Or.inl (rt_lt1 hj hk h1 (ahd_le h2))
  · rcases h2 with h2 | ⟨h2, l2⟩
    · exact Or.inl (rt_lt2 hj hi (Nat.le_of_eq h1) h2)
    · refine Or.inr ⟨Nat.le_antisymm (rt_le hj (Nat.le_of_eq h1) (Nat.le_of_eq h2)) ?_, by omega⟩
      exact rt_le hj (Nat.le_of_eq h2.symm) (Nat.le_of_eq h1.symm)
theorem ahd_asym {i j : Nat} (h1 : ahd τ i j) (h2 : ahd τ j i) : False := by
  unfold ahd at h1 h2
  omega
theorem ahd_tot {i j : Nat} (h : i ≠ j) (h1 : ¬ ahd τ j i) : ahd τ i j := by
  unfold ahd at h1 ⊢
  omega
theorem mul_b {a b : Nat} (ha : a ≤ 100000) (hb : b ≤ 100000) : a * b < 2 ^ 63 := by
  have := Nat.mul_le_mul ha hb
  omega
theorem isBet_eq (hC : Core eE μ ν σ τ) (hG : Good K L τ) {i j : Nat} (hi : i < nO τ) (hj : j < nO τ) : OF_isBetterThan (oq σ i) (oq σ j) σ = some (if wN τ i * gN τ j < wN τ j * gN τ i then 1 else 0) := by
  obtain ⟨_, f1, _, _, _, w1, _, g1⟩ := hC.2.2.2.1.2.1 i hi
  obtain ⟨_, f2, _, _, _, w2, _, g2⟩ := hC.2.2.2.1.2.1 j hj
  obtain ⟨a1, a2, a3⟩ := wN_ok hG hi
  obtain ⟨b1, b2, b3⟩ := gN_ok hG hi
  obtain ⟨c1, c2, c3⟩ := wN_ok hG hj
  obtain ⟨d1, d2, d3⟩ := gN_ok hG hj
  unfold OF_isBetterThan
  simp only [gd_ok f1, gd_ok f2, w1, w2, g1, g2, a1, b1, c1, d1, nI_l (show wN τ i < 2 ^ 31 by omega), nI_l (show wN τ j < 2 ^ 31 by omega), nI_l (show gN τ i < 2 ^ 31 by omega), nI_l (show gN τ j < 2 ^ 31 by omega), lN_mul]
  by_cases h : wN τ i * gN τ j < wN τ j * gN τ i
  · rw [if_pos h, if_neg (fun z => by
      have := (pk_lLE (mul_b c3 b3) (mul_b a3 d3)).mp ((lg_cmp_ge _ _).mp z)
      omega)]
  · rw [if_neg h, if_pos ((lg_cmp_ge _ _).mpr ((pk_lLE (mul_b c3 b3) (mul_b a3 d3)).mpr (by omega)))]
theorem id_le (hG : Good K L τ) {i j : Nat} (hi : i < nO τ) (hj : j < nO τ) : gA τ 15 j ≤ gA τ 15 i ↔ j ≤ i := by
  have g4 := hG.2.2.2.2.1.2.2.2.1
  constructor
  · intro h
    have := Int32.le_iff_toInt_le.mp h
    by_cases c : j ≤ i
    · exact c
    · have := g4 i j (by omega) hj
      omega
  · intro h
    apply Int32.le_iff_toInt_le.mpr
    by_cases c : j = i
    · subst c
      exact Int.le_refl _
    · have := g4 j i (by omega) hi
      omega
theorem MD_ahead_eq (hG : Good K L τ) {i j : Nat} (hi : i < nO τ) (hj : j < nO τ) : (ahd τ i j → MD_ahead (nI i) (nI j) τ = some 1) ∧ (¬ ahd τ i j → MD_ahead (nI i) (nI j) τ = some 0) := by
  have hn := hG.2.2.2.2.1.2.1
  obtain ⟨a1, a2, a3⟩ := wN_ok hG hi
  obtain ⟨b1, b2, b3⟩ := gN_ok hG hi
  obtain ⟨c1, c2, c3⟩ := wN_ok hG hj
  obtain ⟨d1, d2, d3⟩ := gN_ok hG hj
  have il := id_le hG hi hj
  unfold MD_ahead
  simp only [nI_clamp (show i < 2 ^ 31 by omega), nI_clamp (show j < 2 ^ 31 by omega), if_neg (gin (show i < 12 by omega)), if_neg (gin (show j < 12 by omega)), nmL, a1, b1, c1, d1, nI_l (show wN τ i < 2 ^ 31 by omega), nI_l (show wN τ j < 2 ^ 31 by omega), nI_l (show gN τ i < 2 ^ 31 by omega), nI_l (show gN τ j < 2 ^ 31 by omega), lN_mul]
  have l1 := mul_b a3 d3
  have l2 := mul_b c3 b3
  have t1 : (lg_cmp (lN (wN τ i * gN τ j)) (lN (wN τ j * gN τ i)) < 0) ↔ wN τ i * gN τ j < wN τ j * gN τ i := (lg_cmp_lt _ _).trans (pk_lLT l1 l2)
  have t2 : (lg_cmp (lN (wN τ i * gN τ j)) (lN (wN τ j * gN τ i)) = 0) ↔ wN τ i * gN τ j = wN τ j * gN τ i := (lg_cmp_eq _ _).trans (pk_lEQ l1 l2)
  constructor
  · intro h
    by_cases x1 : wN τ i * gN τ j < wN τ j * gN τ i
    · rw [if_pos (t1.mpr x1)]
    · rcases h with h | ⟨h, hl⟩
      · exact absurd h x1
      · rw [if_neg (fun z => x1 (t1.mp z)), if_pos (t2.mpr h), if_neg (fun z => by have := il.mp z; omega)]
  · intro h
    unfold ahd at h
    rw [if_neg (fun z => h (Or.inl (t1.mp z)))]
    by_cases x2 : wN τ i * gN τ j = wN τ j * gN τ i
    · rw [if_pos (t2.mpr x2), if_pos (il.mpr (by omega))]
    · rw [if_neg (fun z => x2 (t2.mp z))]
def inB (τ : ST) (x k a : Int32) (j : Nat) : Prop := gA τ 17 j = x ∧ gA τ 18 j = k ∧ gA τ 16 j ≠ a
/-- a book's places in order, of the first m offers -/
def Row (τ : ST) (x k a : Int32) (m : Nat) (b : Nat → Nat) (s : Nat) : Prop := (∀ p q, p < q → q < s → ahd τ (b p) (b q)) ∧ (∀ p, p < s → b p < m ∧ inB τ x k a (b p)) ∧ (∀ j, j < m → inB τ x k a j → ∃ p, p < s ∧ b p = j) ∧ s ≤ m
def Bk (σ : ST) (b : Nat → Nat) (s : Nat) : Prop := gI σ 9 = nI s ∧ ∀ p, p < s → gR σ 1 p = some (oq σ (b p))
/-- only the book's row and size differ -/
def FrB (σ σ' : ST) : Prop := (∀ i, i ≠ 9 → gI σ' i = gI σ i) ∧ σ'.2.2.1 = σ.2.2.1 ∧ oq σ' = oq σ
theorem FrB.trans {σ1 σ2 σ3 : ST} (h : FrB σ1 σ2) (h' : FrB σ2 σ3) : FrB σ1 σ3 := ⟨fun i hi => (h'.1 i hi).trans (h.1 i hi), h'.2.1.trans h.2.1, h'.2.2.trans h.2.2⟩
theorem ins_L (hG : Good K L τ) {i s : Nat} {b : Nat → Nat} (hi : i < nO τ) (hs : s < 12) (hb : ∀ q, q < s → b q < nO τ) : ∀ (p N : Nat) (σ : ST), p < N → p ≤ s → Core eE μ ν σ τ → gI σ 9 = nI s → (∀ q, q < p → gR σ 1 q = some (oq σ (b q))) → (∀ q, p ≤ q → q < s → gR σ 1 (q + 1) = some (oq σ (b q)) ∧ bet τ i (b q)) → ∃ (σ1 : ST) (p' : Nat), BK_insert_L5 N (oq σ i) (nI p) σ = some σ1 ∧ Core eE μ ν σ1 τ ∧ FrB σ σ1 ∧ gI σ1 9 = nI (s + 1) ∧ p' ≤ s ∧ (∀ q, q < p' → gR σ1 1 q = some (oq σ1 (b q))) ∧ gR σ1 1 p' = some (oq σ1 i) ∧ (∀ q, p' ≤ q → q < s → gR σ1 1 (q + 1) = some (oq σ1 (b q)) ∧ bet τ i (b q)) ∧ (p' = 0 ∨ ¬ bet τ i (b (p' - 1)))
  | p, 0, σ, hN, _, _, _, _, _ => by omega
  | p, N + 1, σ, hN, hps, hC, h9, hlo, hhi => by
    have f1 : oq σ i ∈ pL σ ∧ pK σ (oq σ i) = 2 := (hC.2.2.2.1.2.1 i hi).2.1
    have fin : (p = 0 ∨ ¬ bet τ i (b (p - 1))) → ∃ (σ1 : ST) (p' : Nat), BK_insert_c44 (oq σ i) (nI p) σ = some σ1 ∧ Core eE μ ν σ1 τ ∧ FrB σ σ1 ∧ gI σ1 9 = nI (s + 1) ∧ p' ≤ s ∧ (∀ q, q < p' → gR σ1 1 q = some (oq σ1 (b q))) ∧ gR σ1 1 p' = some (oq σ1 i) ∧ (∀ q, p' ≤ q → q < s → gR σ1 1 (q + 1) = some (oq σ1 (b q)) ∧ bet τ i (b q)) ∧ (p' = 0 ∨ ¬ bet τ i (b (p' - 1))) := by
      intro hx
      unfold BK_insert_c44
      simp only [nI_clamp (show p < 2 ^ 31 by omega), if_neg (gin (show p < 12 by omega)), gd_ok f1, nmS, gI_sR, h9, nI_1]
      refine ⟨_, p, rfl, c_sI (by decide) (c_sR hC), ⟨fun j hj => if_neg hj, rfl, rfl⟩, by rw [gI_sI, if_pos rfl], hps, fun q hq => ?_, ?_, fun q h1 h2 => ⟨?_, (hhi q h1 h2).2⟩, hx⟩
      · show gR (sR σ 1 p (some (oq σ i))) 1 q = some (oq σ (b q))
        rw [gR_sR, if_pos rfl, if_neg (by omega)]
        exact hlo q hq
      · show gR (sR σ 1 p (some (oq σ i))) 1 p = some (oq σ i)
        rw [gR_sR, if_pos rfl, if_pos rfl]
      · show gR (sR σ 1 p (some (oq σ i))) 1 (q + 1) = some (oq σ (b q))
        rw [gR_sR, if_pos rfl, if_neg (by omega)]
        exact (hhi q h1 h2).1
    show ∃ (σ1 : ST) (p' : Nat), BK_insert_b5 _ _ _ _ = some σ1 ∧ _
    unfold BK_insert_b5
    by_cases hp0 : p = 0
    · rw [if_pos (show nI p ≤ 0 by rw [hp0]; decide)]
      exact fin (Or.inl hp0)
    · rw [if_neg (nI_nle (by omega) (by omega))]
      have e1 : nI p - 1 = nI (p - 1) := pk_sub (b := 1) (by omega)
      have e2 : nI p + (-1) = nI (p - 1) := by
        have := pk_m1 (p - 1)
        rw [show p - 1 + 1 = p by omega] at this
        exact this
      have hb1 := hb (p - 1) (by omega)
      have f2 : oq σ (b (p - 1)) ∈ pL σ ∧ pK σ (oq σ (b (p - 1))) = 2 := (hC.2.2.2.1.2.1 _ hb1).2.1
      simp only [e1, e2, nI_clamp (show p - 1 < 2 ^ 31 by omega), if_neg (gin (show p - 1 < 12 by omega)), hlo (p - 1) (by omega), bd1, gd_ok f1, isBet_eq hC hG hi hb1, nI_clamp (show p < 2 ^ 31 by omega), if_neg (gin (show p < 12 by omega)), gd_ok f2, nmS]
      by_cases hbt : wN τ i * gN τ (b (p - 1)) < wN τ (b (p - 1)) * gN τ i
      · simp only [if_pos hbt, i10, if_false]
        obtain ⟨σ1, p', r1, r2, r3, r4, r5, r6, r7, r8, r9⟩ := ins_L hG hi hs hb (p - 1) N (sR σ 1 p (some (oq σ (b (p - 1))))) (by omega) (by omega) (c_sR hC) h9 (fun q hq => by
          show gR (sR σ 1 p (some (oq σ (b (p - 1))))) 1 q = some (oq σ (b q))
          rw [gR_sR, if_pos rfl, if_neg (by omega)]
          exact hlo q (by omega)) (fun q h1 h2 => by
          show gR (sR σ 1 p (some (oq σ (b (p - 1))))) 1 (q + 1) = some (oq σ (b q)) ∧ _
          rw [gR_sR, if_pos rfl]
          by_cases hq : q + 1 = p
          · rw [if_pos hq, show q = p - 1 by omega]
            exact ⟨rfl, hbt⟩
          · rw [if_neg hq]
            exact hhi q (by omega) h2)
        exact ⟨σ1, p', r1, r2, FrB.trans ⟨fun _ _ => rfl, rfl, rfl⟩ r3, r4, r5, r6, r7, r8, r9⟩
      · simp only [if_neg hbt, i00, if_true]
        exact fin (Or.inr hbt)
theorem insert_ok (hC : Core eE μ ν σ τ) (hG : Good K L τ) {x k a : Int32} {i s : Nat} {b : Nat → Nat} (hi : i < nO τ) (hR : Row τ x k a i b s) (hB : Bk σ b s) (hin : inB τ x k a i) : ∃ (σ1 : ST) (b' : Nat → Nat), BK_insert (oq σ i) σ = some σ1 ∧ Core eE μ ν σ1 τ ∧ FrB σ σ1 ∧ Row τ x k a (i + 1) b' (s + 1) ∧ Bk σ1 b' (s + 1) := by
  have hn := hG.2.2.2.2.1.2.1
  obtain ⟨R1, R2, R3, R4⟩ := hR
  have hb : ∀ q, q < s → b q < nO τ := fun q hq => by have := (R2 q hq).1; omega
  obtain ⟨σ1, p, r1, r2, r3, r4, r5, r6, r7, r8, r9⟩ := ins_L hG hi (show s < 12 by omega) hb s FU σ (by rw [FUv]; omega) (Nat.le_refl _) hC hB.1 hB.2 (fun q h1 h2 => by omega)
  have gp : ∀ j, j < nO τ → 0 < gN τ j := fun j hj => (gN_ok hG hj).2.1
  have lowp : ∀ q, q < p → ahd τ (b q) i := fun q hq => by
    have hlast : wN τ (b (p - 1)) * gN τ i ≤ wN τ i * gN τ (b (p - 1)) := by
      rcases r9 with c | c
      · omega
      · unfold bet at c
        omega
    have hle : wN τ (b q) * gN τ i ≤ wN τ i * gN τ (b q) := by
      by_cases c : q = p - 1
      · rw [c]
        exact hlast
      · exact rt_le (gp _ (hb (p - 1) (by omega))) (ahd_le (R1 q (p - 1) (by omega) (by omega))) hlast
    have := (R2 q (by omega)).1
    unfold ahd
    omega
  refine ⟨σ1, fun q => if q < p then b q else if q = p then i else b (q - 1), ?_, r2, r3, ⟨fun q q' hqq hq' => ?_, fun q hq => ?_, fun j hj hjb => ?_, by omega⟩, r4, fun q hq => ?_⟩
  · unfold BK_insert
    simp only [nmI, hB.1]
    exact r1
  · show ahd τ (if q < p then b q else if q = p then i else b (q - 1)) (if q' < p then b q' else if q' = p then i else b (q' - 1))
    by_cases c1 : q' < p
    · rw [if_pos (show q < p by omega), if_pos c1]
      exact R1 q q' hqq (by omega)
    · rw [if_neg c1]
      by_cases c2 : q' = p
      · rw [if_pos c2, if_pos (show q < p by omega)]
        exact lowp q (by omega)
      · rw [if_neg c2]
        by_cases c3 : q < p
        · rw [if_pos c3]
          exact R1 q (q' - 1) (by omega) (by omega)
        · rw [if_neg c3]
          by_cases c4 : q = p
          · rw [if_pos c4]
            exact Or.inl (r8 (q' - 1) (by omega) (by omega)).2
          · rw [if_neg c4]
            exact R1 (q - 1) (q' - 1) (by omega) (by omega)
  · show (if q < p then b q else if q = p then i else b (q - 1)) < i + 1 ∧ inB τ x k a (if q < p then b q else if q = p then i else b (q - 1))
    by_cases c1 : q < p
    · rw [if_pos c1]
      have := R2 q (by omega)
      exact ⟨by omega, this.2⟩
    · rw [if_neg c1]
      by_cases c2 : q = p
      · rw [if_pos c2]
        exact ⟨by omega, hin⟩
      · rw [if_neg c2]
        have := R2 (q - 1) (by omega)
        exact ⟨by omega, this.2⟩
  · by_cases c : j = i
    · refine ⟨p, by omega, ?_⟩
      show (if p < p then b p else if p = p then i else b (p - 1)) = j
      rw [if_neg (by omega), if_pos rfl, c]
    · obtain ⟨q, hq, e⟩ := R3 j (by omega) hjb
      by_cases c1 : q < p
      · refine ⟨q, by omega, ?_⟩
        show (if q < p then b q else if q = p then i else b (q - 1)) = j
        rw [if_pos c1, e]
      · refine ⟨q + 1, by omega, ?_⟩
        show (if q + 1 < p then b (q + 1) else if q + 1 = p then i else b (q + 1 - 1)) = j
        rw [if_neg (by omega), if_neg (by omega), Nat.add_sub_cancel, e]
  · show gR σ1 1 q = some (oq σ1 (if q < p then b q else if q = p then i else b (q - 1)))
    by_cases c1 : q < p
    · rw [if_pos c1]
      exact r6 q c1
    · rw [if_neg c1]
      by_cases c2 : q = p
      · rw [if_pos c2, c2]
        exact r7
      · rw [if_neg c2]
        have := (r8 (q - 1) (by omega) (by omega)).1
        rw [show q - 1 + 1 = q by omega] at this
        exact this
theorem gather_L (hG : Good K L τ) {x k a : Int32} : ∀ (m N i : Nat) (σ : ST) (b : Nat → Nat) (s : Nat), i + m = nO τ → m < N → Core eE μ ν σ τ → Row τ x k a i b s → Bk σ b s → ∃ (σ1 : ST) (b' : Nat → Nat) (s' : Nat), BK_gather_L8 N x k a (nI i) σ = some σ1 ∧ Core eE μ ν σ1 τ ∧ FrB σ σ1 ∧ Row τ x k a (nO τ) b' s' ∧ Bk σ1 b' s'
  | 0, N + 1, i, σ, b, s, hi, _, hC, hR, hB => by
    have hn := hG.2.2.2.2.1.2.1
    show ∃ (σ1 : ST) (b' : Nat → Nat) (s' : Nat), BK_gather_b8 _ _ _ _ _ _ = some σ1 ∧ _
    unfold BK_gather_b8
    rw [szO hC hG]
    simp only [bd1, if_pos (nI_le (show nO τ ≤ i by omega) (by omega))]
    have : i = nO τ := by omega
    rw [this] at hR
    exact ⟨σ, b, s, rfl, hC, ⟨fun _ _ => rfl, rfl, rfl⟩, hR, hB⟩
  | m + 1, N + 1, i, σ, b, s, hi, hN, hC, hR, hB => by
    have hn := hG.2.2.2.2.1.2.1
    have hi' : i < nO τ := by omega
    obtain ⟨_, f1, _, f2, f3, _, f4, _⟩ := hC.2.2.2.1.2.1 i hi'
    show ∃ (σ1 : ST) (b' : Nat → Nat) (s' : Nat), BK_gather_b8 _ _ _ _ _ _ = some σ1 ∧ _
    unfold BK_gather_b8
    rw [szO hC hG, off_rd hC hG hi']
    simp only [bd1, if_neg (nI_ge hi' (by omega)), if_neg (show ¬ (12 : Int32) ≤ nI i from nI_ge (b := 12) (by omega) (by omega)), gd_ok f1, f2, f3, f4, nI_1]
    have no : ¬ inB τ x k a i → Row τ x k a (i + 1) b s := fun hno => ⟨hR.1, fun p hp => ⟨by have := (hR.2.1 p hp).1; omega, (hR.2.1 p hp).2⟩, fun j hj hjb => by
      by_cases c : j = i
      · exact absurd (c ▸ hjb) hno
      · exact hR.2.2.1 j (by omega) hjb, by have := hR.2.2.2; omega⟩
    by_cases c1 : gA τ 17 i = x
    · by_cases c2 : gA τ 18 i = k
      · by_cases c3 : gA τ 16 i = a
        · simp only [if_pos c1, if_pos c2, if_pos c3]
          exact gather_L hG m N (i + 1) σ b s (by omega) (by omega) hC (no (fun z => z.2.2 c3)) hB
        · obtain ⟨σ1, b', e1, hC1, hF1, hR1, hB1⟩ := insert_ok hC hG hi' hR hB ⟨c1, c2, c3⟩
          simp only [if_pos c1, if_pos c2, if_neg c3, e1]
          obtain ⟨σ2, b2, s2, e2, hC2, hF2, hR2, hB2⟩ := gather_L hG m N (i + 1) σ1 b' (s + 1) (by omega) (by omega) hC1 hR1 hB1
          exact ⟨σ2, b2, s2, e2, hC2, hF1.trans hF2, hR2, hB2⟩
      · simp only [if_pos c1, if_neg c2]
        exact gather_L hG m N (i + 1) σ b s (by omega) (by omega) hC (no (fun z => c2 z.2.1)) hB
    · simp only [if_neg c1]
      exact gather_L hG m N (i + 1) σ b s (by omega) (by omega) hC (no (fun z => c1 z.1)) hB
theorem gather_ok (hC : Core eE μ ν σ τ) (hG : Good K L τ) (x k a : Int32) : ∃ (σ1 : ST) (b : Nat → Nat) (s : Nat), BK_gather x k a σ = some σ1 ∧ Core eE μ ν σ1 τ ∧ FrB σ σ1 ∧ Row τ x k a (nO τ) b s ∧ Bk σ1 b s := by
  have hn := hG.2.2.2.2.1.2.1
  unfold BK_gather
  simp only [nmS]
  obtain ⟨σ1, b, s, e, r1, r2, r3, r4⟩ := gather_L hG (x := x) (k := k) (a := a) (nO τ) FU 0 (sI σ 9 0) (fun _ => 0) 0 (by omega) (by rw [FUv]; omega) (c_sI (by decide) hC) ⟨fun _ _ _ h => by omega, fun _ h => by omega, fun _ h => by omega, Nat.le_refl _⟩ ⟨by rw [gI_sI, if_pos rfl]; decide, fun _ h => by omega⟩
  exact ⟨σ1, b, s, e, r1, FrB.trans (σ2 := sI σ 9 0) ⟨fun j hj => if_neg hj, rfl, rfl⟩ r2, r3, r4⟩
/-! the reference's choice -/
def Sn (τ : ST) (b : Nat → Nat) (p : Nat) : Prop := ∀ j, j < nO τ → (gA τ 29 j = 0 ↔ ∀ q, q < p → b q ≠ j)
def mayB (τ : ST) (x k a : Int32) (b : Nat → Nat) (p j : Nat) : Prop := inB τ x k a j ∧ ∀ q, q < p → b q ≠ j
theorem next_L (hG : Good K L τ) {x k a : Int32} {b : Nat → Nat} {p : Nat} (hS : Sn τ b p) : ∀ (m N j : Nat) (best : Int32), j + m = nO τ → m < N → ((best = -1 ∧ ∀ i, i < j → ¬ mayB τ x k a b p i) ∨ ∃ i, i < j ∧ best = nI i ∧ mayB τ x k a b p i ∧ ∀ i', i' < j → i' ≠ i → mayB τ x k a b p i' → ahd τ i i') → ∃ r, MD_nextOf_L6 N x k a best (nI j) τ = some r ∧ ((r = -1 ∧ ∀ i, i < nO τ → ¬ mayB τ x k a b p i) ∨ ∃ i, i < nO τ ∧ r = nI i ∧ mayB τ x k a b p i ∧ ∀ i', i' < nO τ → i' ≠ i → mayB τ x k a b p i' → ahd τ i i')
  | 0, N + 1, j, best, hj, _, h => by
    obtain ⟨g1, hn, _⟩ := hG.2.2.2.2.1
    show ∃ r, MD_nextOf_b6 _ _ _ _ _ _ _ = some r ∧ _
    unfold MD_nextOf_b6
    rw [g1, if_pos (nI_le (show nO τ ≤ j by omega) (by omega))]
    have : j = nO τ := by omega
    subst this
    exact ⟨best, rfl, h⟩
  | m + 1, N + 1, j, best, hj, hN, h => by
    obtain ⟨g1, hn, _⟩ := hG.2.2.2.2.1
    have hj' : j < nO τ := by omega
    have skip : ¬ mayB τ x k a b p j → ((best = -1 ∧ ∀ i, i < j + 1 → ¬ mayB τ x k a b p i) ∨ ∃ i, i < j + 1 ∧ best = nI i ∧ mayB τ x k a b p i ∧ ∀ i', i' < j + 1 → i' ≠ i → mayB τ x k a b p i' → ahd τ i i') := fun hno => by
      rcases h with ⟨e, h⟩ | ⟨i, h1, h2, h3, h4⟩
      · refine Or.inl ⟨e, fun i hi => ?_⟩
        by_cases c : i = j
        · rw [c]; exact hno
        · exact h i (by omega)
      · refine Or.inr ⟨i, by omega, h2, h3, fun i' hi' hne hm => ?_⟩
        by_cases c : i' = j
        · exact absurd (c ▸ hm) hno
        · exact h4 i' (by omega) hne hm
    show ∃ r, MD_nextOf_b6 _ _ _ _ _ _ _ = some r ∧ _
    unfold MD_nextOf_b6 MD_inBook MD_nextOf_c52
    rw [g1]
    simp only [if_neg (nI_ge hj' (by omega)), nI_clamp (show j < 2 ^ 31 by omega), if_neg (gin (show j < 12 by omega)), nI_1]
    by_cases c1 : gA τ 17 j = x
    · by_cases c2 : gA τ 18 j = k
      · simp only [if_pos c1, if_pos c2, bd1, i10, if_false]
        by_cases c4 : gA τ 29 j = 0
        · simp only [if_pos c4]
          by_cases c3 : gA τ 16 j = a
          · simp only [if_pos c3, i00, if_true]
            exact next_L hG hS m N (j + 1) best (by omega) (by omega) (skip (fun z => z.1.2.2 c3))
          · simp only [if_neg c3, i10, if_false]
            have mj : mayB τ x k a b p j := ⟨⟨c1, c2, c3⟩, (hS j hj').mp c4⟩
            rcases h with ⟨e, h⟩ | ⟨i, h1, h2, h3, h4⟩
            · rw [e, if_pos (show (-1 : Int32) < 0 by decide)]
              exact next_L hG hS m N (j + 1) (nI j) (by omega) (by omega) (Or.inr ⟨j, by omega, rfl, mj, fun i' hi' hne hm => absurd hm (h i' (by omega))⟩)
            · rw [h2, if_neg (nI_pos (show i < 2 ^ 31 by omega))]
              have gi := (gN_ok hG (show i < nO τ by omega)).2.1
              have gj := (gN_ok hG hj').2.1
              by_cases ca : ahd τ j i
              · simp only [(MD_ahead_eq hG hj' (show i < nO τ by omega)).1 ca, i10, if_false]
                refine next_L hG hS m N (j + 1) (nI j) (by omega) (by omega) (Or.inr ⟨j, by omega, rfl, mj, fun i' hi' hne hm => ?_⟩)
                by_cases c : i' = i
                · rw [c]; exact ca
                · exact ahd_trans gj gi (gN_ok hG (show i' < nO τ by omega)).2.1 ca (h4 i' (by omega) c hm)
              · simp only [(MD_ahead_eq hG hj' (show i < nO τ by omega)).2 ca, i00, if_true]
                refine next_L hG hS m N (j + 1) (nI i) (by omega) (by omega) (Or.inr ⟨i, by omega, rfl, h3, fun i' hi' hne hm => ?_⟩)
                by_cases c : i' = j
                · rw [c]; exact ahd_tot (by omega) ca
                · exact h4 i' (by omega) hne hm
        · simp only [if_neg c4, i00, if_true]
          exact next_L hG hS m N (j + 1) best (by omega) (by omega) (skip (fun z => c4 ((hS j hj').mpr z.2)))
      · simp only [if_pos c1, if_neg c2, bd1, i00, if_true]
        exact next_L hG hS m N (j + 1) best (by omega) (by omega) (skip (fun z => c2 z.1.2.1))
    · simp only [if_neg c1, bd1, i00, if_true]
      exact next_L hG hS m N (j + 1) best (by omega) (by omega) (skip (fun z => c1 z.1.1))
theorem Row.inj {x k a : Int32} {m s p q : Nat} {b : Nat → Nat} (h : Row τ x k a m b s) (hp : p < s) (hq : q < s) (e : b p = b q) : p = q := by
  rcases Nat.lt_trichotomy p q with c | c | c
  · have := h.1 p q c hq
    rw [e] at this
    exact (ahd_asym this this).elim
  · exact c
  · have := h.1 q p c hp
    rw [e] at this
    exact (ahd_asym this this).elim
theorem next_ok (hG : Good K L τ) {x k a : Int32} {b : Nat → Nat} {s p : Nat} (hR : Row τ x k a (nO τ) b s) (hS : Sn τ b p) (hp : p ≤ s) : MD_nextOf x k a τ = some (if p < s then nI (b p) else -1) := by
  have hn := hG.2.2.2.2.1.2.1
  unfold MD_nextOf
  obtain ⟨r, e, h⟩ := next_L hG (x := x) (k := k) (a := a) hS (nO τ) FU 0 (-1) (by omega) (by rw [FUv]; omega) (Or.inl ⟨rfl, fun i hi => absurd hi (Nat.not_lt_zero _)⟩)
  have e' : MD_nextOf_L6 FU x k a (-1) 0 τ = some r := e
  rw [e']
  congr 1
  have mb : p < s → mayB τ x k a b p (b p) := fun hps => ⟨(hR.2.1 p hps).2, fun q hq z => by
    have := hR.inj (show q < s by omega) hps z
    omega⟩
  rcases h with ⟨er, h⟩ | ⟨i, h1, h2, h3, h4⟩
  · rw [if_neg (fun hps => h (b p) (hR.2.1 p hps).1 (mb hps))]
    exact er
  · obtain ⟨q, hq, eq⟩ := hR.2.2.1 i h1 h3.1
    have hqp : p ≤ q := Nat.le_of_not_lt (fun z => h3.2 q z eq)
    have hps : p < s := by omega
    rw [if_pos hps, h2]
    by_cases c : q = p
    · rw [← eq, c]
    · exfalso
      have a1 := hR.1 p q (by omega) hq
      have ne : b p ≠ i := fun z => c (hR.inj hq hps (by rw [eq, z]))
      have a2 := h4 (b p) (hR.2.1 p hps).1 ne (mb hps)
      rw [eq] at a1
      exact ahd_asym a1 a2
theorem Sn.set {x k a : Int32} {b : Nat → Nat} {s p : Nat} (hS : Sn τ b p) (hp : p < s) : Sn (sA τ 29 (b p) 1) b (p + 1) := by
  intro j hj
  by_cases c : j = b p
  · rw [c, gA_eq]
    constructor
    · intro z
      exact absurd z (by decide)
    · intro z
      exact absurd rfl (z p (by omega))
  · rw [gA_nj c, hS j hj]
    constructor
    · intro z q hq
      by_cases cq : q = p
      · rw [cq]; exact fun w => c w.symm
      · exact z q (by omega)
    · intro z q hq
      exact z q (by omega)
theorem ahd_cg {b0 i0 i j : Nat} {v : Int32} (hb : 27 ≤ b0) : ahd (sA τ b0 i0 v) i j ↔ ahd τ i j := by
  unfold ahd wN gN
  rw [gA_ne (by omega), gA_ne (by omega), gA_ne (by omega), gA_ne (by omega)]
theorem inB_cg {b0 i0 j : Nat} {v x k a : Int32} (hb : 27 ≤ b0) : inB (sA τ b0 i0 v) x k a j ↔ inB τ x k a j := by
  unfold inB
  rw [gA_ne (by omega), gA_ne (by omega), gA_ne (by omega)]
theorem Row.cg {b0 i0 m s : Nat} {b : Nat → Nat} {v x k a : Int32} (hb : 27 ≤ b0) (h : Row τ x k a m b s) : Row (sA τ b0 i0 v) x k a m b s :=
  ⟨fun p q h1 h2 => (ahd_cg hb).mpr (h.1 p q h1 h2), fun p hp => ⟨(h.2.1 p hp).1, (inB_cg hb).mpr (h.2.1 p hp).2⟩, fun j hj hjb => h.2.2.1 j hj ((inB_cg hb).mp hjb), h.2.2.2⟩
theorem book_L {x k a n : Int32} {b : Nat → Nat} {s : Nat} : ∀ (m N p : Nat) (τ : ST), p + m = s → m < N → Core eE μ ν σ τ → Good K L τ → Row τ x k (-1) (nO τ) b s → Sn τ b p → (∀ q, q < p → nI q ≠ n) → ∃ τ1, MD_book_L57 N x k n (nI p) (if p < s then nI (b p) else -1) τ = some (if n = -1 then nI s else if 0 ≤ n ∧ n.toNatClampNeg < s then gA τ 15 (b n.toNatClampNeg) else -1, τ1) ∧ Core eE μ ν σ τ1 ∧ Good K L τ1
  | 0, N + 1, p, τ, hp, _, hC, hG, hR, hS, hne => by
    have hn := hG.2.2.2.2.1.2.1
    have hs := hR.2.2.2
    show ∃ τ1, MD_book_b57 _ _ _ _ _ _ _ = _ ∧ _
    unfold MD_book_b57
    have : p = s := by omega
    subst this
    rw [if_neg (Nat.lt_irrefl p), if_pos (show (-1 : Int32) < 0 by decide)]
    by_cases c : n = -1
    · rw [if_pos c, if_pos c]
      exact ⟨τ, rfl, hC, hG⟩
    · rw [if_neg c, if_neg c, if_neg (fun z => by
        obtain ⟨j, hj, rfl⟩ := nI_of (Int32.not_lt.mpr z.1)
        rw [nI_clamp hj] at z
        exact hne j z.2 rfl)]
      exact ⟨τ, rfl, hC, hG⟩
  | m + 1, N + 1, p, τ, hp, hN, hC, hG, hR, hS, hne => by
    have hn := hG.2.2.2.2.1.2.1
    have hs := hR.2.2.2
    have hps : p < s := by omega
    have hb := (hR.2.1 p hps).1
    have hb' : b p < 2 ^ 31 := by omega
    show ∃ τ1, MD_book_b57 _ _ _ _ _ _ _ = _ ∧ _
    unfold MD_book_b57
    rw [if_pos hps]
    simp only [if_neg (nI_pos hb'), nI_clamp hb', if_neg (gin (show b p < 12 by omega)), nmS, nI_1]
    by_cases c : nI p = n
    · rw [if_pos c, ← c, if_neg (nIm1 (by omega)), nI_clamp (by omega), if_pos ⟨nI_pos' (by omega), hps⟩]
      exact ⟨τ, rfl, hC, hG⟩
    · rw [if_neg c]
      have hG1 : Good K L (sA τ 29 (b p) 1) := g_sA (by decide) hG
      have hR1 : Row (sA τ 29 (b p) 1) x k (-1) (nO τ) b s := hR.cg (by decide)
      have hS1 : Sn (sA τ 29 (b p) 1) b (p + 1) := hS.set (x := x) (k := k) (a := a) hps
      rw [next_ok hG1 hR1 hS1 (by omega)]
      simp only [bd1]
      obtain ⟨τ1, e, r⟩ := book_L (n := n) (a := a) m N (p + 1) (sA τ 29 (b p) 1) (by omega) (by omega) (m_sA (by decide) hC) hG1 hR1 hS1 (fun q hq => by
        by_cases cq : q = p
        · rw [cq]; exact c
        · exact hne q (by omega))
      rw [gA_ne (by decide)] at e
      exact ⟨τ1, e, r⟩
theorem seen0 {x k n : Int32} : ∀ (m N j : Nat) (τ : ST), j + m = 12 → m < N → Core eE μ ν σ τ → Good K L τ → (∀ i, i < j → gA τ 29 i = 0) → ∃ τ1, MD_book_L24 N x k n (nI j) τ = bd1 (MD_nextOf x k (-1) τ1) (fun r52 => MD_book_L57 FU x k n 0 r52 τ1) ∧ Core eE μ ν σ τ1 ∧ Good K L τ1 ∧ (∀ i, i < 12 → gA τ1 29 i = 0) ∧ (∀ b i, b < 27 → gA τ1 b i = gA τ b i) ∧ nO τ1 = nO τ
  | 0, N + 1, j, τ, hj, _, hC, hG, hz => by
    show ∃ τ1, MD_book_b24 _ _ _ _ _ _ = _ ∧ _
    unfold MD_book_b24
    rw [if_pos (show (12 : Int32) ≤ nI j from nI_le (a := 12) (by omega) (by omega))]
    exact ⟨τ, rfl, hC, hG, fun i hi => hz i (by omega), fun _ _ _ => rfl, rfl⟩
  | m + 1, N + 1, j, τ, hj, hN, hC, hG, hz => by
    show ∃ τ1, MD_book_b24 _ _ _ _ _ _ = _ ∧ _
    unfold MD_book_b24
    rw [if_neg (show ¬ (12 : Int32) ≤ nI j from nI_ge (b := 12) (by omega) (by omega))]
    simp only [nI_clamp (show j < 2 ^ 31 by omega), if_neg (gin (show j < 12 by omega)), nmS, nI_1]
    obtain ⟨τ1, e, r1, r2, r3, r4, r5⟩ := seen0 (x := x) (k := k) (n := n) m N (j + 1) (sA τ 29 j 0) (by omega) (by omega) (m_sA (by decide) hC) (g_sA (by decide) hG) (fun i hi => by
      by_cases c : i = j
      · rw [c, gA_eq]
      · rw [gA_nj c]; exact hz i (by omega))
    exact ⟨τ1, e, r1, r2, r3, fun b i hb => (r4 b i hb).trans (gA_ne (by omega)), r5⟩
theorem Row.cg2 {τ1 : ST} {x k a : Int32} {m s : Nat} {b : Nat → Nat} (h : Row τ x k a m b s) (e : ∀ b i, b < 27 → gA τ1 b i = gA τ b i) : Row τ1 x k a m b s := by
  unfold Row ahd inB wN gN at h ⊢
  simp only [e 16 _ (by decide), e 17 _ (by decide), e 18 _ (by decide), e 19 _ (by decide), e 20 _ (by decide)]
  exact h
theorem s_book {x1 x2 x3 : Int32} (hC : Core eE μ ν σ τ) (hG : Good K L τ) : ∃ (r : Int32) (σ1 τ1 : ST), TL_book x1 x2 x3 σ = some (r, σ1) ∧ MD_book x1 x2 x3 τ = some (r, τ1) ∧ Core eE μ ν σ1 τ1 ∧ Good K L τ1 := by
  have hn := hG.2.2.2.2.1.2.1
  unfold TL_book MD_book
  simp only [TL_isAsset_eq, MD_isAsset_eq, TL_isWithin_eq, bd1]
  by_cases h1 : 0 ≤ x1 ∧ x1 ≤ 12
  · by_cases h2 : 0 ≤ x2 ∧ x2 ≤ 12
    · simp only [if_pos h1, if_pos h2, i10, if_false]
      obtain ⟨σ1, b, s, e, hC1, hF, hR, hB⟩ := gather_ok hC hG x1 x2 (-1)
      have hs := hR.2.2.2
      simp only [e]
      rw [hB.1]
      by_cases h3 : -1 ≤ x3
      · simp only [if_pos h3]
        obtain ⟨τ1, e1, hC2, hG2, hz, hcg, hno⟩ := seen0 (x := x1) (k := x2) (n := x3) 12 FU 0 τ (by omega) (by rw [FUv]; omega) hC1 hG (fun i hi => absurd hi (Nat.not_lt_zero _))
        have e1' : MD_book_L24 FU x1 x2 x3 0 τ = _ := e1
        have hR1 : Row τ1 x1 x2 (-1) (nO τ1) b s := by rw [hno]; exact hR.cg2 hcg
        have hS1 : Sn τ1 b 0 := fun j hj => ⟨fun _ q hq => absurd hq (Nat.not_lt_zero _), fun _ => hz j (by omega)⟩
        rw [e1', next_ok hG2 hR1 hS1 (Nat.zero_le _)]
        simp only [bd1]
        obtain ⟨τ2, e2, hC3, hG3⟩ := book_L (n := x3) (a := 0) s FU 0 τ1 (by omega) (by rw [FUv]; omega) hC2 hG2 hR1 hS1 (fun q hq => absurd hq (Nat.not_lt_zero _))
        have e2' : MD_book_L57 FU x1 x2 x3 0 (if 0 < s then nI (b 0) else -1) τ1 = _ := e2
        rw [e2', hcg 15 _ (by decide)]
        by_cases c : x3 = -1
        · simp only [if_pos c]
          exact ⟨_, _, _, rfl, rfl, hC3, hG3⟩
        · simp only [if_neg c]
          have h0 : ¬ x3 < 0 := fun z => by
            have a1 := Int32.lt_iff_toInt_lt.mp z
            have a2 := Int32.le_iff_toInt_le.mp h3
            have b1 : (0 : Int32).toInt = 0 := by decide
            have b2 : (-1 : Int32).toInt = -1 := by decide
            exact c (Int32.toInt_inj.mp (by rw [b2]; omega))
          obtain ⟨j, hj, rfl⟩ := nI_of h0
          rw [nI_clamp hj]
          by_cases hjs : j < s
          · have e0 : nI s - 1 = nI (s - 1) := pk_sub (b := 1) (by omega)
            have c1 : 0 ≤ nI j ∧ nI j ≤ nI s - 1 := ⟨nI_pos' hj, by rw [e0]; exact nI_le (by omega) (by omega)⟩
            have c2 : 0 ≤ nI j ∧ j < s := ⟨nI_pos' hj, hjs⟩
            have hb := (hR.2.1 j hjs).1
            obtain ⟨_, f1, f2, _⟩ := hC1.2.2.2.1.2.1 (b j) hb
            simp only [if_pos c1, if_pos c2, i10, if_false, if_neg (gin (show j < 12 by omega)), hB.2 j hjs, gd_ok f1, f2]
            exact ⟨_, _, _, rfl, rfl, hC3, hG3⟩
          · have c1 : ¬ (0 ≤ nI j ∧ nI j ≤ nI s - 1) := fun z => by
              by_cases hs0 : s = 0
              · rw [hs0, show nI 0 - 1 = -1 by decide] at z
                have a2 := Int32.le_iff_toInt_le.mp z.2
                have b2 : (-1 : Int32).toInt = -1 := by decide
                rw [nI_toInt hj, b2] at a2
                omega
              · rw [show nI s - 1 = nI (s - 1) from pk_sub (b := 1) (by omega)] at z
                have := (nI_leI hj (by omega)).mp z.2
                omega
            have c2 : ¬ (0 ≤ nI j ∧ j < s) := fun z => hjs z.2
            simp only [if_neg c1, if_neg c2, i00, if_true]
            exact ⟨_, _, _, rfl, rfl, hC3, hG3⟩
      · simp only [if_neg h3]
        have c : ¬ x3 = -1 := fun z => h3 (by rw [z]; decide)
        have c1 : ¬ (0 ≤ x3 ∧ x3 ≤ nI s - 1) := fun z => h3 (Int32.le_trans (by decide) z.1)
        simp only [if_neg c, if_neg c1, i00, if_true]
        exact ⟨_, _, _, rfl, rfl, hC1, hG⟩
    · simp only [if_pos h1, if_neg h2, i10, i00, if_false, if_true]
      exact ⟨_, _, _, rfl, rfl, hC, hG⟩
  · simp only [if_neg h1, i00, if_true]
    exact ⟨_, _, _, rfl, rfl, hC, hG⟩
end BOOK
