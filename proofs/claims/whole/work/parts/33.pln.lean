section PLN
variable {eE : Nat × Nat} {μ ν σ σ' τ τ' : ST} {K L : Nat}
abbrev PZ : Type := Nat × Nat × Nat × Nat × (Nat → Nat) × (Nat → Nat) × (Nat → Nat) × (Nat → Bool)
def zR (s : PZ) : Nat := s.1
def zT (s : PZ) : Nat := s.2.1
def zP (s : PZ) : Nat := s.2.2.1
def zC (s : PZ) : Nat := s.2.2.2.1
def zU (s : PZ) : Nat → Nat := s.2.2.2.2.1
def zK (s : PZ) : Nat → Nat := s.2.2.2.2.2.1
def zA (s : PZ) : Nat → Nat := s.2.2.2.2.2.2.1
def zG (s : PZ) : Nat → Bool := s.2.2.2.2.2.2.2
def rN (τ : ST) (i : Nat) : Nat := (gA τ 11 i).toNatClampNeg
def rt (τ : ST) (k a b : Nat) : Nat := if k = 0 then 0 else if (k - 1) % 6 = a then 0 else if (k - 1) % 6 = b then 0 else rN τ ((k - 1) % 6)
def cst (r v : Nat) : Nat := v + (v * r + 999) / 1000
def prc (τ : ST) (j v : Nat) : Nat := (v * wN τ j + gN τ j - 1) / gN τ j
/-- the rates' bounds alone -/
def GR (τ : ST) : Prop := ∀ i, i < 6 → ∃ r, r ≤ 200 ∧ gA τ 11 i = nI r
theorem Good.gr (h : Good K L τ) : GR τ := fun i hi => (h.2.1 i hi).2.2
theorem rN_ok (hG : GR τ) {i : Nat} (hi : i < 6) : gA τ 11 i = nI (rN τ i) ∧ rN τ i ≤ 200 := by
  obtain ⟨r, h1, h2⟩ := hG i hi
  unfold rN
  rw [h2, nI_clamp (by omega)]
  exact ⟨rfl, h1⟩
theorem rt_le200 (hG : GR τ) (k a b : Nat) : rt τ k a b ≤ 200 := by
  unfold rt
  split
  · omega
  · split
    · omega
    · split
      · omega
      · exact (rN_ok hG (Nat.mod_lt _ (by decide))).2
theorem cst0 (v : Nat) : cst 0 v = v := by
  unfold cst
  omega
theorem cst_le {r v : Nat} (hr : r ≤ 200) : cst r v ≤ v + v / 5 + 1 := by
  unfold cst
  have : v * r ≤ v * 200 := Nat.mul_le_mul_left v hr
  omega
theorem cst_mono {r v v' : Nat} (h : v ≤ v') : cst r v ≤ cst r v' := by
  unfold cst
  have : v * r ≤ v' * r := Nat.mul_le_mul_right r h
  omega
theorem cst_ge {r v : Nat} : v ≤ cst r v := by
  unfold cst
  omega
theorem cst_iff {r v P : Nat} : cst r v ≤ P ↔ v ≤ 1000 * P / (1000 + r) := by
  rw [Nat.le_div_iff_mul_le (by omega), Nat.mul_add]
  unfold cst
  omega
theorem prc_iff (hG : Good K L τ) {j v m : Nat} (hj : j < nO τ) : prc τ j v ≤ m ↔ v ≤ m * gN τ j / wN τ j := by
  have hw := (wN_ok hG hj).2.1
  have hg := (gN_ok hG hj).2.1
  rw [Nat.le_div_iff_mul_le (by omega)]
  unfold prc
  rw [← Nat.lt_succ_iff, Nat.div_lt_iff_lt_mul (by omega), Nat.succ_mul]
  omega
theorem prc0 (hG : Good K L τ) {j : Nat} (hj : j < nO τ) : prc τ j 0 = 0 := by
  have hg := (gN_ok hG hj).2.1
  unfold prc
  rw [Nat.zero_mul]
  exact Nat.div_eq_of_lt (by omega)
theorem prc_le (hG : Good K L τ) {j v : Nat} (hj : j < nO τ) (hv : v ≤ gN τ j) : prc τ j v ≤ wN τ j := by
  have hw := (wN_ok hG hj).2.1
  rw [prc_iff hG hj]
  rw [Nat.mul_div_cancel_left _ (by omega)]
  exact hv
theorem prc_mono {j v v' : Nat} (h : v ≤ v') : prc τ j v ≤ prc τ j v' := by
  unfold prc
  apply Nat.div_le_div_right
  have := Nat.mul_le_mul_right (wN τ j) h
  omega
theorem prc_pos (hG : Good K L τ) {j v : Nat} (hj : j < nO τ) (hv : 0 < v) : 0 < prc τ j v := by
  have hw := (wN_ok hG hj).2.1
  have hg := (gN_ok hG hj).2.1
  unfold prc
  apply Nat.div_pos _ (by omega)
  have : 1 * 1 ≤ v * wN τ j := Nat.mul_le_mul hv hw
  omega
/-! costs on both sides -/
theorem iss_lt (k : Nat) : (k - 1) % 6 < 6 := Nat.mod_lt _ (by decide)
theorem ST_tollRate_eq (hC : Core eE μ ν σ τ) (hG : GR τ) {k a b : Nat} (hk : k < 13) (ha : a < 6) (hb : b < 6) : ST_tollRate (nI k) (nI a) (nI b) σ = some (nI (rt τ k a b)) := by
  unfold ST_tollRate rt
  by_cases h0 : k = 0
  · rw [if_pos (show nI k = 0 by rw [h0]; decide), if_pos h0]
    rfl
  · rw [if_neg (fun z => h0 ((nI_k0 hk).mp z)), if_neg h0, TL_iss (by omega) hk]
    simp only [bd1]
    have hi := iss_lt k
    by_cases h1 : (k - 1) % 6 = a
    · rw [if_pos h1, if_pos (by rw [h1])]
      rfl
    · rw [if_neg h1, if_neg (fun z => h1 ((nI_eq (by omega) (by omega)).mp z).symm)]
      by_cases h2 : (k - 1) % 6 = b
      · rw [if_pos h2, if_pos (by rw [h2])]
        rfl
      · rw [if_neg h2, if_neg (fun z => h2 ((nI_eq (by omega) (by omega)).mp z).symm)]
        obtain ⟨r1, r2⟩ := acc_rd hC hi
        rw [nI_clamp (lt31 hi)] at r1
        simp only [nI_clamp (lt31 hi), if_neg (gin hi), r1, gd_ok r2, (hC.2.1.1 _ hi).2.2.2.2.1]
        rw [(rN_ok hG hi).1]
theorem ST_costOf_eq (hC : Core eE μ ν σ τ) (hG : GR τ) {v k a b : Nat} (hv : v ≤ 1000000) (hk : k < 13) (ha : a < 6) (hb : b < 6) : ST_costOf (nI v) (nI k) (nI a) (nI b) σ = some (nI (cst (rt τ k a b) v)) := by
  have hr := rt_le200 hG k a b
  unfold ST_costOf cst
  rw [ST_tollRate_eq hC hG hk ha hb]
  have hm : v * rt τ k a b ≤ 1000000 * 200 := Nat.mul_le_mul hv hr
  have e9 : (999 : Int64) = lN 999 := by decide
  have e10 : (1000 : Int64) = lN 1000 := by decide
  simp only [bd1, nmL, nI_l (show v < 2 ^ 31 by omega), nI_l (show rt τ k a b < 2 ^ 31 by omega)]
  rw [e9, e10, lN_mul, lN_add, pk_lDiv (by omega) (by decide) (by decide), lN_i, nI_add]
theorem ST_mostMovable_eq (hC : Core eE μ ν σ τ) (hG : GR τ) {P k a b : Nat} (hP : P < 2 ^ 31) (hk : k < 13) (ha : a < 6) (hb : b < 6) : ST_mostMovable (nI P) (nI k) (nI a) (nI b) σ = some (nI (1000 * P / (1000 + rt τ k a b))) := by
  have hr := rt_le200 hG k a b
  unfold ST_mostMovable
  rw [ST_tollRate_eq hC hG hk ha hb]
  have e10 : (1000 : Int64) = lN 1000 := by decide
  have e11 : (1000 : Int32) + nI (rt τ k a b) = nI (1000 + rt τ k a b) := nI_add 1000 _
  simp only [bd1, e11, nI_l (show 1000 + rt τ k a b < 2 ^ 31 by omega), nI_l hP]
  rw [if_neg (fun z => by
    have := (pk_lEQ (a := 1000 + rt τ k a b) (b := 0) (by omega) (by decide)).mp z
    omega), e10, lN_mul, pk_lDiv (by omega) (by omega) (by omega), lN_i]
theorem MD_costOf_eq (hG : GR τ) {v k a b : Nat} (hv : v ≤ 1000000) (hk : k < 13) (ha : a < 6) (hb : b < 6) : MD_costOf (lN v) (nI a) (nI b) (nI k) τ = some (lN (cst (rt τ k a b) v)) := by
  have hr := rt_le200 hG k a b
  unfold MD_costOf rt
  by_cases h0 : k = 0
  · rw [if_pos (show nI k = 0 by rw [h0]; decide), if_pos h0, cst0]
  · rw [if_neg (fun z => h0 ((nI_k0 hk).mp z)), if_neg h0, MD_iss (by omega) hk]
    simp only [bd1]
    have hi := iss_lt k
    by_cases h1 : (k - 1) % 6 = a
    · rw [if_pos h1, if_pos (by rw [h1]), cst0]
    · rw [if_neg h1, if_neg (fun z => h1 ((nI_eq (by omega) (by omega)).mp z))]
      by_cases h2 : (k - 1) % 6 = b
      · rw [if_pos h2, if_pos (by rw [h2]), cst0]
      · rw [if_neg h2, if_neg (fun z => h2 ((nI_eq (by omega) (by omega)).mp z))]
        obtain ⟨q1, q2⟩ := rN_ok hG hi
        simp only [nI_clamp (lt31 hi), if_neg (gin hi), q1, nI_l (show rN τ ((k - 1) % 6) < 2 ^ 31 by omega)]
        have hm : v * rN τ ((k - 1) % 6) ≤ 1000000 * 200 := Nat.mul_le_mul hv q2
        have e9 : (999 : Int64) = lN 999 := by decide
        have e10 : (1000 : Int64) = lN 1000 := by decide
        unfold cst
        rw [e9, e10, lN_mul, lN_add, pk_lDiv (by omega) (by decide) (by decide), lN_add]
theorem OF_priceOf_eq (hC : Core eE μ ν σ τ) (hG : Good K L τ) {j v : Nat} (hj : j < nO τ) (hv : v ≤ 1000000) : OF_priceOf (oq σ j) (nI v) σ = some (nI (prc τ j v)) := by
  obtain ⟨_, f1, _, _, _, w1, _, g1⟩ := hC.2.2.2.1.2.1 j hj
  obtain ⟨a1, a2, a3⟩ := wN_ok hG hj
  obtain ⟨b1, b2, b3⟩ := gN_ok hG hj
  have hm : v * wN τ j ≤ 1000000 * 100000 := Nat.mul_le_mul hv a3
  unfold OF_priceOf prc
  simp only [gd_ok f1, w1, g1, a1, b1, if_neg (nI_nle (show 0 < gN τ j by omega) (by omega)), nI_l (show wN τ j < 2 ^ 31 by omega), nI_l (show gN τ j < 2 ^ 31 by omega), nI_l (show v < 2 ^ 31 by omega)]
  rw [if_neg (fun z => by
    have := (pk_lEQ (a := gN τ j) (b := 0) (by omega) (by decide)).mp z
    omega), lN_mul, lN_add, show (1 : Int64) = lN 1 by decide, lN_sub (by omega), pk_lDiv (by omega) (by omega) (by omega), lN_i]
theorem MD_priceOf_eq (hG : Good K L τ) {j v : Nat} (hj : j < nO τ) (hv : v ≤ 1000000) : MD_priceOf (nI j) (nI v) τ = some (nI (prc τ j v)) := by
  have hn := hG.2.2.2.2.1.2.1
  obtain ⟨a1, a2, a3⟩ := wN_ok hG hj
  obtain ⟨b1, b2, b3⟩ := gN_ok hG hj
  have hm : v * wN τ j ≤ 1000000 * 100000 := Nat.mul_le_mul hv a3
  unfold MD_priceOf prc
  simp only [nI_clamp (show j < 2 ^ 31 by omega), if_neg (gin (show j < 12 by omega)), a1, b1, nI_l (show wN τ j < 2 ^ 31 by omega), nI_l (show gN τ j < 2 ^ 31 by omega), nI_l (show v < 2 ^ 31 by omega)]
  rw [if_neg (fun z => by
    have := (pk_lEQ (a := gN τ j) (b := 0) (by omega) (by decide)).mp z
    omega), lN_mul, lN_add, show (1 : Int64) = lN 1 by decide, lN_sub (by omega), pk_lDiv (by omega) (by omega) (by omega), lN_i]
theorem OF_mostFor_eq (hC : Core eE μ ν σ τ) (hG : Good K L τ) {j m : Nat} (hj : j < nO τ) (hm : m ≤ 100000) : OF_mostFor (oq σ j) (nI m) σ = some (lN (m * gN τ j / wN τ j)) := by
  obtain ⟨_, f1, _, _, _, w1, _, g1⟩ := hC.2.2.2.1.2.1 j hj
  obtain ⟨a1, a2, a3⟩ := wN_ok hG hj
  obtain ⟨b1, b2, b3⟩ := gN_ok hG hj
  have hmm : m * gN τ j ≤ 100000 * 100000 := Nat.mul_le_mul hm b3
  unfold OF_mostFor
  simp only [gd_ok f1, w1, g1, a1, b1, if_neg (nI_nle (show 0 < wN τ j by omega) (by omega)), nI_l (show wN τ j < 2 ^ 31 by omega), nI_l (show gN τ j < 2 ^ 31 by omega), nI_l (show m < 2 ^ 31 by omega)]
  rw [if_neg (fun z => by
    have := (pk_lEQ (a := wN τ j) (b := 0) (by omega) (by decide)).mp z
    omega), lN_mul, pk_lDiv (by omega) (by omega) (by omega)]
/-! the plan -/
def stp (τ : ST) (me x k : Nat) (f : Nat → Nat) (j v : Nat) (s : PZ) : PZ := (zR s + 1, zT s + v, zP s + prc τ j v, zC s + cst (rt τ x me (oN τ j)) (prc τ j v), va_up (zU s) (oN τ j) (zU s (oN τ j) - cst (rt τ k (oN τ j) me) v), va_up (zK s) j v, va_up (zA s) j (prc τ j v), va_up (zG s) j (decide (f (oN τ j) = 0 ∨ (v ≠ 0 ∧ (v = gN τ j ∨ prc τ j v = wN τ j)))))
def mov (τ : ST) (me k j : Nat) (s : PZ) : Nat := 1000 * zU s (oN τ j) / (1000 + rt τ k (oN τ j) me)
def pln (st : Nat → PZ → Bool) (sf : Nat → PZ → PZ) (b : Nat → Nat) : Nat → Nat → PZ → PZ
  | 0, _, s => s
  | m + 1, p, s => if st (b p) s = true then s else pln st sf b m (p + 1) (sf (b p) s)
/-- bounds of a plan behind p places -/
def PB (τ : ST) (f : Nat → Nat) (b : Nat → Nat) (s : PZ) : Prop := zP s ≤ 100000 * zR s ∧ zC s ≤ 120001 * zR s ∧ zT s ≤ 100000 * zR s ∧ (∀ o, zU s o ≤ f o) ∧ (∀ j, (∀ q, q < zR s → b q ≠ j) → zK s j = 0 ∧ zA s j = 0 ∧ zG s j = false) ∧ (∀ q, q < zR s → zK s (b q) ≤ gN τ (b q) ∧ zA s (b q) = prc τ (b q) (zK s (b q)) ∧ (zG s (b q) = true ↔ f (oN τ (b q)) = 0 ∨ (zK s (b q) ≠ 0 ∧ (zK s (b q) = gN τ (b q) ∨ zA s (b q) = wN τ (b q)))) ∧ (f (oN τ (b q)) = 0 → zK s (b q) = 0))
def ps0 (f : Nat → Nat) : PZ := (0, 0, 0, 0, f, fun _ => 0, fun _ => 0, fun _ => false)
theorem PB0 {f b : Nat → Nat} : PB τ f b (ps0 f) := ⟨Nat.le_refl _, Nat.le_refl _, Nat.le_refl _, fun _ => Nat.le_refl _, fun _ _ => ⟨rfl, rfl, rfl⟩, fun q hq => absurd hq (Nat.not_lt_zero _)⟩
theorem PB.step {x0 k0 a0 : Int32} {me x k n : Nat} {f b : Nat → Nat} {s : PZ} {v : Nat} (hG : Good K L τ) (hR : Row τ x0 k0 a0 (nO τ) b n) (h : PB τ f b s) (hp : zR s < n) (hv : v ≤ gN τ (b (zR s))) (hm : v ≤ mov τ me k (b (zR s)) s) : PB τ f b (stp τ me x k f (b (zR s)) v s) := by
  obtain ⟨h1, h2, h3, h4, h5, h6⟩ := h
  have hj := (hR.2.1 _ hp).1
  have hw := wN_ok hG hj
  have hg := gN_ok hG hj
  have hpr := prc_le hG hj hv
  have hcs := cst_le (v := prc τ (b (zR s)) v) (rt_le200 hG.gr x me (oN τ (b (zR s))))
  have ne : ∀ q, q < zR s → b q ≠ b (zR s) := fun q hq z => by
    have := hR.inj (show q < n by omega) hp z
    omega
  refine ⟨?_, ?_, ?_, fun o => ?_, fun j hj2 => ?_, fun q hq => ?_⟩
  · show zP s + prc τ (b (zR s)) v ≤ 100000 * (zR s + 1)
    omega
  · show zC s + cst (rt τ x me (oN τ (b (zR s)))) (prc τ (b (zR s)) v) ≤ 120001 * (zR s + 1)
    omega
  · show zT s + v ≤ 100000 * (zR s + 1)
    omega
  · show va_up (zU s) (oN τ (b (zR s))) (zU s (oN τ (b (zR s))) - cst (rt τ k (oN τ (b (zR s))) me) v) o ≤ f o
    by_cases c : o = oN τ (b (zR s))
    · rw [c, va_up_self]
      have := h4 (oN τ (b (zR s)))
      omega
    · rw [va_up_ne _ _ c]
      exact h4 o
  · have hj3 : ∀ q, q < zR s + 1 → b q ≠ j := hj2
    have c : j ≠ b (zR s) := fun z => hj3 (zR s) (by omega) z.symm
    show va_up (zK s) (b (zR s)) v j = 0 ∧ va_up (zA s) (b (zR s)) (prc τ (b (zR s)) v) j = 0 ∧ va_up (zG s) (b (zR s)) _ j = false
    rw [va_up_ne _ _ c, va_up_ne _ _ c, va_up_ne _ _ c]
    exact h5 j (fun q hq => hj3 q (by omega))
  · have hq' : q < zR s + 1 := hq
    show va_up (zK s) (b (zR s)) v (b q) ≤ gN τ (b q) ∧ va_up (zA s) (b (zR s)) (prc τ (b (zR s)) v) (b q) = prc τ (b q) (va_up (zK s) (b (zR s)) v (b q)) ∧ (va_up (zG s) (b (zR s)) _ (b q) = true ↔ f (oN τ (b q)) = 0 ∨ (va_up (zK s) (b (zR s)) v (b q) ≠ 0 ∧ (va_up (zK s) (b (zR s)) v (b q) = gN τ (b q) ∨ va_up (zA s) (b (zR s)) (prc τ (b (zR s)) v) (b q) = wN τ (b q)))) ∧ (f (oN τ (b q)) = 0 → va_up (zK s) (b (zR s)) v (b q) = 0)
    by_cases c : q = zR s
    · subst c
      rw [va_up_self, va_up_self, va_up_self]
      refine ⟨hv, rfl, ⟨fun z => of_decide_eq_true z, fun z => decide_eq_true z⟩, fun hf => ?_⟩
      have h7 := h4 (oN τ (b (zR s)))
      unfold mov at hm
      rw [show zU s (oN τ (b (zR s))) = 0 by omega, Nat.mul_zero, Nat.zero_div] at hm
      omega
    · rw [va_up_ne _ _ (ne q (by omega)), va_up_ne _ _ (ne q (by omega)), va_up_ne _ _ (ne q (by omega))]
      exact h6 q (by omega)
/-! the class's plan -/
def CX (σ : ST) (me x k : Nat) (f b : Nat → Nat) (n : Nat) : Prop := gI σ 10 = nI me ∧ gI σ 11 = nI x ∧ gI σ 12 = nI k ∧ Bk σ b n ∧ ∀ o, o < 6 → gA σ 5 o = nI (f o)
def CP (σ : ST) (b : Nat → Nat) (s : PZ) : Prop := gI σ 13 = nI (zR s) ∧ gI σ 14 = nI (zT s) ∧ gI σ 15 = nI (zP s) ∧ gI σ 16 = nI (zC s) ∧ (∀ o, o < 6 → gA σ 6 o = nI (zU s o)) ∧ ∀ p, p < zR s → gA σ 3 p = nI (zK s (b p)) ∧ gA σ 4 p = nI (zA s (b p))
theorem imin_eq {a b : Nat} (ha : a < 2 ^ 31) (hb : b < 2 ^ 31) : imin (nI a) (nI b) = nI (min a b) := by
  unfold imin
  by_cases h : b < a
  · rw [if_pos (nI_lt h ha), Nat.min_eq_right (by omega)]
  · rw [if_neg (nI_nlt (by omega) (by omega)), Nat.min_eq_left (by omega)]
theorem go_ok {x0 k0 a0 : Int32} {me x k n cap : Nat} {f b : Nat → Nat} {s : PZ} (hC : Core eE μ ν σ τ) (hG : Good K L τ) (hR : Row τ x0 k0 a0 (nO τ) b n) (hX : CX σ me x k f b n) (hP : CP σ b s) (hB : PB τ f b s) (hf : ∀ o, f o < 2 ^ 31) (hme : me < 6) (hx : x < 13) (hk : k < 13) (hp : zR s < n) (hcap : cap < 2 ^ 31) : ∃ σ1, TK_goThrough (nI (zR s)) (nI cap) σ = some σ1 ∧ Core eE μ ν σ1 τ ∧ CX σ1 me x k f b n ∧ CP σ1 b (stp τ me x k f (b (zR s)) (min cap (min (gN τ (b (zR s))) (mov τ me k (b (zR s)) s))) s) := by
  have hn := hG.2.2.2.2.1.2.1
  have hs := hR.2.2.2
  have hj := (hR.2.1 _ hp).1
  obtain ⟨x1, x2, x3, ⟨x4, x5⟩, x6⟩ := hX
  obtain ⟨p1, p2, p3, p4, p5, p6⟩ := hP
  obtain ⟨b1, b2, b3, b4, b5, b6⟩ := hB
  obtain ⟨_, f1, _, fo, _, fw, _, fg⟩ := hC.2.2.2.1.2.1 _ hj
  obtain ⟨eo, ho⟩ := oN_ok hG hj
  obtain ⟨eg, hg1, hg2⟩ := gN_ok hG hj
  have hw := wN_ok hG hj
  have hU : zU s (oN τ (b (zR s))) < 2 ^ 31 := by have := b4 (oN τ (b (zR s))); have := hf (oN τ (b (zR s))); omega
  have hpr : zR s < 2 ^ 31 := by omega
  have hp12 : zR s < 12 := by omega
  have hmv : mov τ me k (b (zR s)) s < 2 ^ 31 := by
    unfold mov
    have : 1000 * zU s (oN τ (b (zR s))) / (1000 + rt τ k (oN τ (b (zR s))) me) ≤ 1000 * zU s (oN τ (b (zR s))) / 1000 := Nat.div_le_div_left (by omega) (by decide)
    omega
  have hmm := ST_mostMovable_eq hC hG.gr (P := zU s (oN τ (b (zR s)))) (k := k) (a := oN τ (b (zR s))) (b := me) hU hk ho hme
  have hmm' : ST_mostMovable (nI (zU s (oN τ (b (zR s))))) (nI k) (nI (oN τ (b (zR s)))) (nI me) σ = some (nI (mov τ me k (b (zR s)) s)) := hmm
  have hv1 : min cap (min (gN τ (b (zR s))) (mov τ me k (b (zR s)) s)) ≤ gN τ (b (zR s)) := by omega
  have hv2 : min cap (min (gN τ (b (zR s))) (mov τ me k (b (zR s)) s)) ≤ mov τ me k (b (zR s)) s := by omega
  have ev : imin (nI cap) (imin (nI (gN τ (b (zR s)))) (nI (mov τ me k (b (zR s)) s))) = nI (min cap (min (gN τ (b (zR s))) (mov τ me k (b (zR s)) s))) := by
    rw [imin_eq (by omega) hmv, imin_eq hcap (by omega)]
  unfold TK_goThrough
  simp only [nI_clamp hpr, if_neg (gin hp12), x5 _ hp, bd1, gd_ok f1, nmI, fo, eo, nI_clamp (lt31 ho), if_neg (gin ho), x1, x3, p5 _ ho, hmm', fg, eg, ev]
  generalize hvv : min cap (min (gN τ (b (zR s))) (mov τ me k (b (zR s)) s)) = v at *
  have hpl := prc_le hG hj hv1
  have hC1 : Core eE μ ν (sA σ 3 (zR s) (nI v)) τ := c_sA (by decide) hC
  have q1 : OF_priceOf (oq σ (b (zR s))) (nI v) (sA σ 3 (zR s) (nI v)) = some (nI (prc τ (b (zR s)) v)) := OF_priceOf_eq hC1 hG hj (by omega)
  have hC2 : Core eE μ ν (sA (sA σ 3 (zR s) (nI v)) 4 (zR s) (nI (prc τ (b (zR s)) v))) τ := c_sA (by decide) hC1
  have q2 := ST_costOf_eq hC2 hG.gr (v := v) (k := k) (a := oN τ (b (zR s))) (b := me) (by omega) hk ho hme
  have hcv : cst (rt τ k (oN τ (b (zR s))) me) v ≤ zU s (oN τ (b (zR s))) := cst_iff.mpr hv2
  simp only [nmS, pL_sA, pK_sA, gd_ok f1, q1, gI_sA, x1, x3, q2, gA_ne (show (6 : Nat) ≠ 4 by decide), gA_ne (show (6 : Nat) ≠ 3 by decide), p5 _ ho, pk_sub hcv, gI_sI, gA_sI, reduceIte, Nat.reduceEqDiff, gA_ne (show (4 : Nat) ≠ 6 by decide), gA_eq, p2, p3, p4, x2, nI_add]
  have hC3 : Core eE μ ν (sI (sI (sA (sA (sA σ 3 (zR s) (nI v)) 4 (zR s) (nI (prc τ (b (zR s)) v))) 6 (oN τ (b (zR s))) (nI (zU s (oN τ (b (zR s))) - cst (rt τ k (oN τ (b (zR s))) me) v))) 14 (nI (zT s + v))) 15 (nI (zP s + prc τ (b (zR s)) v))) τ := c_sI (by decide) (c_sI (by decide) (c_sA (by decide) hC2))
  have q3 := ST_costOf_eq hC3 hG.gr (v := prc τ (b (zR s)) v) (k := x) (a := me) (b := oN τ (b (zR s))) (by omega) hx hme ho
  simp only [q3, nI_add, nI_1]
  refine ⟨_, rfl, c_sI (by decide) (c_sI (by decide) hC3), ⟨x1, x2, x3, ⟨x4, x5⟩, fun o ho2 => ?_⟩, ⟨?_, ?_, ?_, ?_, fun o ho2 => ?_, fun p hp2 => ?_⟩⟩
  · rw [gA_sI, gA_sI, gA_sI, gA_sI, gA_ne (by decide), gA_ne (by decide), gA_ne (by decide)]
    exact x6 o ho2
  · rw [gI_sI, if_pos rfl]
    rfl
  · simp only [gI_sI, reduceIte, Nat.reduceEqDiff]
    rfl
  · simp only [gI_sI, reduceIte, Nat.reduceEqDiff]
    rfl
  · simp only [gI_sI, reduceIte, Nat.reduceEqDiff]
    rfl
  · rw [gA_sI, gA_sI, gA_sI, gA_sI]
    show _ = nI (va_up (zU s) (oN τ (b (zR s))) (zU s (oN τ (b (zR s))) - cst (rt τ k (oN τ (b (zR s))) me) v) o)
    by_cases c : o = oN τ (b (zR s))
    · rw [c, gA_eq, va_up_self]
    · rw [gA_nj c, va_up_ne _ _ c, gA_ne (by decide), gA_ne (by decide)]
      exact p5 o ho2
  · have hp3 : p < zR s + 1 := hp2
    rw [gA_sI, gA_sI, gA_sI, gA_sI, gA_sI, gA_sI, gA_sI, gA_sI]
    show _ = nI (va_up (zK s) (b (zR s)) v (b p)) ∧ _ = nI (va_up (zA s) (b (zR s)) (prc τ (b (zR s)) v) (b p))
    by_cases c : p = zR s
    · rw [c, va_up_self, va_up_self, gA_ne (by decide), gA_ne (by decide), gA_eq, gA_ne (by decide), gA_eq]
      exact ⟨rfl, rfl⟩
    · have ne : b p ≠ b (zR s) := fun z => c (hR.inj (by omega) hp z)
      rw [va_up_ne _ _ ne, va_up_ne _ _ ne, gA_ne (by decide), gA_ne (by decide), gA_nj c, gA_ne (by decide), gA_nj c, gA_ne (by decide)]
      exact p6 p (by omega)
end PLN
