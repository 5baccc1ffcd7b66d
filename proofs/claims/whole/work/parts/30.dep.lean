section DEP
variable {eE : Nat × Nat} {μ ν σ σ' τ τ' : ST} {K L : Nat}
theorem step_dep {c : Nat} {F : ST → Option (Int32 × ST × Option (Int32 × Int32 × Int32 × Int32 × Int32))} {G : ST → Option (Int32 × ST)} (hI : Inv eE c σ)
    (h : ∀ μ ν τ : ST, Core eE μ ν σ τ → Good (1000000 + 4190000 * c) c τ → ∃ (res : Int32 × ST × Option (Int32 × Int32 × Int32 × Int32 × Int32)) (r : Int32) (τ1 : ST), F σ = some res ∧ G τ = some (r, τ1) ∧ (res.2.2 ≠ none → gI res.2.1 20 = nI (gI res.2.1 20).toNatClampNeg ∧ (gI res.2.1 20).toNatClampNeg ≤ 14 ∧ LOk 1 3 eE res.2.1 (gI res.2.1 20).toNatClampNeg) ∧ (∀ v σ', PDeposit eE.1 (gI res.2.1 20).toNatClampNeg res v σ' → v = some (.int r) ∧ Core eE μ ν σ' τ1) ∧ Good (1000000 + 4190000 * (c + 1)) (c + 1) τ1) :
    ∃ (res : Int32 × ST × Option (Int32 × Int32 × Int32 × Int32 × Int32)) (n : Nat), F σ = some res ∧ (res.2.2 ≠ none → gI res.2.1 20 = nI n ∧ n ≤ 14 ∧ LOk 1 3 eE res.2.1 n) ∧ ∀ (v : Option Value) (σ1 : ST), PDeposit eE.1 n res v σ1 → ∃ (r : Int32) (σ2 : ST), v = some (.int r) ∧ G σ1 = some (r, σ2) ∧ Inv eE (c + 1) σ2 := by
  obtain ⟨hC, hG⟩ := hI
  obtain ⟨res, r, τ1, e1, e2, q, hP, hG1⟩ := h σ σ σ hC hG
  refine ⟨res, _, e1, q, fun v σ1 hv => ?_⟩
  obtain ⟨ev, hC1⟩ := hP v σ1 hv
  have hq : QM σ σ1 := hC1.2.2.2.2.2.2.1
  obtain ⟨k1, k2, k3, k4, k5⟩ := core_m (τ' := σ1) ⟨hC.1, hC.2.1, hC.2.2.1, hC.2.2.2.1, hC.2.2.2.2.1⟩ hq
  obtain ⟨res', r', τ2, f1, f2, q', hP', hG2⟩ := h σ σ1 σ1 ⟨k1, k2, k3, k4, k5, hC.2.2.2.2.2.1, QM.refl σ, QT.refl σ1⟩ (Good_m hG hq)
  rw [e1] at f1
  have er := Option.some.inj f1
  subst er
  obtain ⟨ev', hC2⟩ := hP' v σ1 hv
  obtain ⟨m1, m2, m3, m4, m5, m6⟩ := core_t (σ' := τ2) ⟨hC2.1, hC2.2.1, hC2.2.2.1, hC2.2.2.2.1, hC2.2.2.2.2.1, hC2.2.2.2.2.2.1⟩ hC2.2.2.2.2.2.2.2
  exact ⟨r', τ2, ev', f2, ⟨m1, m2, m3, m4, m5, m6, QM.refl τ2, QT.refl τ2⟩, hG2⟩
theorem step_off {c : Nat} {F : ST → Option (Int32 × ST × Option (Int32 × Int32 × Int32 × Int32 × Int32))} {G : ST → Option (Int32 × ST)} (hI : Inv eE c σ)
    (h : ∀ μ ν τ : ST, Core eE μ ν σ τ → Good (1000000 + 4190000 * c) c τ → ∃ (res : Int32 × ST × Option (Int32 × Int32 × Int32 × Int32 × Int32)) (r : Int32) (τ1 : ST), F σ = some res ∧ G τ = some (r, τ1) ∧ (res.2.2 ≠ none → gI res.2.1 18 = nI (gI res.2.1 18).toNatClampNeg ∧ (gI res.2.1 18).toNatClampNeg ≤ 14 ∧ LOk 0 2 eE res.2.1 (gI res.2.1 18).toNatClampNeg) ∧ (∀ v σ', POffer eE.1 (gI res.2.1 18).toNatClampNeg res v σ' → v = some (.int r) ∧ Core eE μ ν σ' τ1) ∧ Good (1000000 + 4190000 * (c + 1)) (c + 1) τ1) :
    ∃ (res : Int32 × ST × Option (Int32 × Int32 × Int32 × Int32 × Int32)) (n : Nat), F σ = some res ∧ (res.2.2 ≠ none → gI res.2.1 18 = nI n ∧ n ≤ 14 ∧ LOk 0 2 eE res.2.1 n) ∧ ∀ (v : Option Value) (σ1 : ST), POffer eE.1 n res v σ1 → ∃ (r : Int32) (σ2 : ST), v = some (.int r) ∧ G σ1 = some (r, σ2) ∧ Inv eE (c + 1) σ2 := by
  obtain ⟨hC, hG⟩ := hI
  obtain ⟨res, r, τ1, e1, e2, q, hP, hG1⟩ := h σ σ σ hC hG
  refine ⟨res, _, e1, q, fun v σ1 hv => ?_⟩
  obtain ⟨ev, hC1⟩ := hP v σ1 hv
  have hq : QM σ σ1 := hC1.2.2.2.2.2.2.1
  obtain ⟨k1, k2, k3, k4, k5⟩ := core_m (τ' := σ1) ⟨hC.1, hC.2.1, hC.2.2.1, hC.2.2.2.1, hC.2.2.2.2.1⟩ hq
  obtain ⟨res', r', τ2, f1, f2, q', hP', hG2⟩ := h σ σ1 σ1 ⟨k1, k2, k3, k4, k5, hC.2.2.2.2.2.1, QM.refl σ, QT.refl σ1⟩ (Good_m hG hq)
  rw [e1] at f1
  have er := Option.some.inj f1
  subst er
  obtain ⟨ev', hC2⟩ := hP' v σ1 hv
  obtain ⟨m1, m2, m3, m4, m5, m6⟩ := core_t (σ' := τ2) ⟨hC2.1, hC2.2.1, hC2.2.2.1, hC2.2.2.2.1, hC2.2.2.2.2.1, hC2.2.2.2.2.2.1⟩ hC2.2.2.2.2.2.2.2
  exact ⟨r', τ2, ev', f2, ⟨m1, m2, m3, m4, m5, m6, QM.refl τ2, QT.refl τ2⟩, hG2⟩
/-- nothing new -/
theorem dep_none {r r' : Int32} (h : Core eE μ ν σ' τ') (e : r = r') : ((some (r, σ', none) : Option (Int32 × ST × Option (Int32 × Int32 × Int32 × Int32 × Int32))) = some (r, σ', none)) ∧ ((((r, σ', none) : Int32 × ST × Option (Int32 × Int32 × Int32 × Int32 × Int32)).2.2 ≠ none → gI σ' 20 = nI (gI σ' 20).toNatClampNeg ∧ (gI σ' 20).toNatClampNeg ≤ 14 ∧ LOk 1 3 eE σ' (gI σ' 20).toNatClampNeg)) ∧ ∀ v σ1, PDeposit eE.1 (gI σ' 20).toNatClampNeg (r, σ', none) v σ1 → v = some (.int r') ∧ Core eE μ ν σ1 τ' := by
  refine ⟨rfl, fun z => absurd rfl z, fun v σ1 hv => ?_⟩
  obtain ⟨h1, h2⟩ := hv
  rw [h1, h2, e]
  exact ⟨rfl, h⟩
theorem plcD_ok {a : Nat} {x1 x2 x3 x4 x5 z : Int32} (hG : Good K L τ) (hn : nD τ < 6) (hm : gI τ 25 = x1) : plcD τ x1 x2 x3 x4 x5 (sI (sA (sA (sA (sA (sA (sA (sI τ 24 (gI τ 24 + 1)) 21 (nD τ) (gI τ 24 + 1)) 22 (nD τ) x1) 23 (nD τ) x2) 24 (nD τ) x3) 25 (nD τ) x4) 26 (nD τ) x5) 23 (nI (nD τ) + 1)) := by
  refine ⟨rfl, ?_, fun i h1 h2 => ?_, fun b i hb => ?_, ?_, rfl, rfl⟩
  · rw [gI_sI, if_pos rfl, nI_1]
  · rw [gI_sI, if_neg h2]
    simp only [gI_sA, gI_sI, if_neg h1]
  · rw [gA_sI]
    rcases hb with hb | hb
    · rw [gA_ne (by omega), gA_ne (by omega), gA_ne (by omega), gA_ne (by omega), gA_ne (by omega), gA_ne (by omega), gA_sI]
    · simp only [gA_sA, if_neg hb, gA_sI, ite_self]
  · simp only [gA_sI, gA_sA, reduceIte, Nat.reduceEqDiff]
    exact ⟨trivial, trivial, trivial, trivial, trivial, trivial⟩
theorem s_deposit {x1 x2 x3 x4 : Int32} (hC : Core eE μ ν σ τ) (hG : Good K L τ) (hK : K + 1200000 < 2 ^ 31) (hL : L + 1 < 2 ^ 31) : ∃ (res : Int32 × ST × Option (Int32 × Int32 × Int32 × Int32 × Int32)) (r : Int32) (τ1 : ST), TL_deposit x1 x2 x3 x4 σ = some res ∧ MD_deposit x1 x2 x3 x4 τ = some (r, τ1) ∧ (res.2.2 ≠ none → gI res.2.1 20 = nI (gI res.2.1 20).toNatClampNeg ∧ (gI res.2.1 20).toNatClampNeg ≤ 14 ∧ LOk 1 3 eE res.2.1 (gI res.2.1 20).toNatClampNeg) ∧ (∀ v σ', PDeposit eE.1 (gI res.2.1 20).toNatClampNeg res v σ' → v = some (.int r) ∧ Core eE μ ν σ' τ1) ∧ Good (K + 1000100) (L + 1) τ1 := by
  have bad : TL_deposit_c42 x1 x2 x3 x4 0 σ = some (-1, σ, none) := by
    unfold TL_deposit_c42
    simp only [TL_charge0, bd2, im10, if_false]
  have badM : MD_deposit_c49 x1 x2 x3 x4 0 τ = some (-1, τ) := by
    unfold MD_deposit_c49
    simp only [MD_begin0, bd2, im10, if_false]
  have hG' : Good (K + 1000100) (L + 1) τ := hG.mono (by omega) (by omega)
  have bb : ∃ (res : Int32 × ST × Option (Int32 × Int32 × Int32 × Int32 × Int32)) (r : Int32) (τ1 : ST), TL_deposit_c42 x1 x2 x3 x4 0 σ = some res ∧ MD_deposit_c49 x1 x2 x3 x4 0 τ = some (r, τ1) ∧ (res.2.2 ≠ none → gI res.2.1 20 = nI (gI res.2.1 20).toNatClampNeg ∧ (gI res.2.1 20).toNatClampNeg ≤ 14 ∧ LOk 1 3 eE res.2.1 (gI res.2.1 20).toNatClampNeg) ∧ (∀ v σ', PDeposit eE.1 (gI res.2.1 20).toNatClampNeg res v σ' → v = some (.int r) ∧ Core eE μ ν σ' τ1) ∧ Good (K + 1000100) (L + 1) τ1 := ⟨_, _, _, bad, badM, (dep_none hC rfl).2.1, (dep_none hC rfl).2.2, hG'⟩
  unfold TL_deposit MD_deposit
  simp only [TL_isOther_eq hC, MD_isAccount_eq, TL_isWithin_eq, bd1]
  by_cases h1 : 0 ≤ x1 ∧ x1 ≤ 5
  · by_cases h2 : x1 = gI τ 25
    · simp only [if_neg (show ¬ ((0 ≤ x1 ∧ x1 ≤ 5) ∧ x1 ≠ gI τ 25) from fun z => z.2 h2), if_pos h1, if_pos h2, i00, i10, if_true, if_false]
      exact bb
    · simp only [if_pos (show (0 ≤ x1 ∧ x1 ≤ 5) ∧ x1 ≠ gI τ 25 from ⟨h1, h2⟩), if_pos h1, if_neg h2, i10, if_false]
      by_cases h3 : 1 ≤ x2 ∧ x2 ≤ 1000000
      · simp only [if_pos h3, i10, if_false, if_neg (Int32.not_lt.mpr h3.1), if_neg (Int32.not_lt.mpr h3.2)]
        by_cases h4 : x3 < 0
        · simp only [if_pos h4]
          exact bb
        simp only [if_neg h4]
        by_cases h5 : x4 ≤ x3
        · simp only [if_pos h5]
          exact bb
        simp only [if_neg h5]
        by_cases h6 : 100000 < x4
        · simp only [if_pos h6]
          exact bb
        simp only [if_neg h6]
        unfold TL_deposit_c42 MD_deposit_c49
        obtain ⟨r, σ1, τ1, t1, t2, hC1, hG1, h0⟩ := s_charge 1 hC hG (by omega)
        have hG1' : Good (K + 1000100) (L + 1) τ1 := hG1.mono (by omega) (by omega)
        simp only [bd2, t1, t2]
        by_cases hr : r = 0
        · obtain ⟨_, a, ha, hm, hm', h8⟩ := h0 hr
          obtain ⟨b, hb, rfl⟩ := acct_of h1
          obtain ⟨v, hv1, hv2, rfl⟩ := rng_of (M := 1000000) (n := 1000000) (by decide) h3
          obtain ⟨r1, r2⟩ := acc_rd hC1 hb
          rw [nI_clamp (lt31 hb)] at r1
          have g23 := hG1.2.2.2.2.2.1
          have hn6 := hG1.2.2.2.2.2.2.1
          simp only [if_pos hr, nI_clamp (lt31 hb), if_neg (gin hb), r1, bd1, gd_ok r2, ex_rd hC1 hb, szD hC1 hG1, g23, hm, hm']
          by_cases h80 : gA τ1 8 b = 0
          · simp only [if_pos h80]
            exact ⟨_, _, _, rfl, rfl, (dep_none hC1 rfl).2.1, (dep_none hC1 rfl).2.2, hG1'⟩
          · simp only [if_neg h80]
            by_cases hf6 : nD τ1 = 6
            · have c1 : ¬ nI (nD τ1) < 6 := by rw [hf6]; decide
              have c2 : nI (nD τ1) = 6 := by rw [hf6]; decide
              simp only [if_neg c1, if_pos c2]
              exact ⟨_, _, _, rfl, rfl, (dep_none hC1 rfl).2.1, (dep_none hC1 rfl).2.2, hG1'⟩
            · have c1 : nI (nD τ1) < 6 := nI_lt (b := 6) (by omega) (by decide)
              have c2 : ¬ nI (nD τ1) = 6 := fun z => hf6 ((nI_eq (b := 6) (by omega) (by decide)).mp z)
              have af := ST_afford_eq hC1 hG1 ha hv2 (by omega)
              have hple := pcs_le hG1 a
              simp only [if_pos c1, if_neg c2, af, if_neg (gin ha), nI_clamp (lt31 ha), MD_reserve_eq hG1 ha]
              have e20 : nI v + nI (100 + 20 * pcs τ1 a) + 20 = nI (v + 120 + 20 * pcs τ1 a) := by
                rw [show (20 : Int32) = nI 20 by decide, nI_add, nI_add]
                congr 1
                omega
              have e20' : (nI (v + 120 + 20 * pcs τ1 a)).toInt = ((v + 120 + 20 * pcs τ1 a : Nat) : Int) := nI_toInt (by omega)
              rw [e20]
              by_cases cf : (gA τ1 9 a).toInt - v < ((120 + 20 * pcs τ1 a : Nat) : Int)
              · have cn : ¬ nI (v + 120 + 20 * pcs τ1 a) ≤ gA τ1 9 a := fun z => by
                  have := Int32.le_iff_toInt_le.mp z
                  rw [e20'] at this
                  omega
                simp only [if_pos cf, i00, if_true, if_neg cn]
                exact ⟨_, _, _, rfl, rfl, (dep_none hC1 rfl).2.1, (dep_none hC1 rfl).2.2, hG1'⟩
              · have cn : nI (v + 120 + 20 * pcs τ1 a) ≤ gA τ1 9 a := Int32.le_iff_toInt_le.mpr (by rw [e20']; omega)
                obtain ⟨σ2, s1, s2⟩ := s_change (a := a) (k := 0) (v := -nI v) hC1 ha (by decide)
                rw [show nI 0 = 0 by decide] at s1
                have hG2 := g_change (a := a) (k := 0) (v := -nI v) hG1 ha (by decide) ((Ab_nI hv2 (by omega)).neg (by decide)) (by omega)
                rw [chg_0] at s2 hG2
                have sub : gA τ1 9 a - nI v = gA τ1 9 a + -nI v := Int32.sub_eq_add_neg _ _
                have hm2 : gI σ2 0 = nI a := s2.1.1.trans hm
                have en : nD (sA τ1 9 a (gA τ1 9 a + -nI v)) = nD τ1 := rfl
                have hn6' : nD τ1 < 6 := by omega
                simp only [if_neg cf, i10, if_false, if_pos cn, s1, nmS, gI_sA, gI_sI, reduceIte, Nat.reduceEqDiff, g23, nI_clamp (show nD τ1 < 2 ^ 31 by omega), if_neg (gin hn6'), hm, hm2, sub]
                have pl := plcD_ok (τ := sA τ1 9 a (gA τ1 9 a + -nI v)) (x1 := nI a) (x2 := nI b) (x3 := nI v) (x4 := x3) (x5 := x4) (a := a) (z := 0) hG2 hn6' hm
                have sz : gI σ2 20 = nI (nD τ1) := s2.1.2.2.2.2.2.2.2.2.2.2.trans g23
                have sz' : (gI σ2 20).toNatClampNeg = nD τ1 := by rw [sz, nI_clamp (by omega)]
                refine ⟨_, _, _, rfl, rfl, fun _ => ?_, fun w σ' hw => ?_, ?_⟩
                · show gI σ2 20 = nI (gI σ2 20).toNatClampNeg ∧ (gI σ2 20).toNatClampNeg ≤ 14 ∧ LOk 1 3 eE σ2 (gI σ2 20).toNatClampNeg
                  rw [sz']
                  exact ⟨sz, by omega, s2.2.2.2.2.1.1⟩
                · obtain ⟨w1, w2⟩ := hw
                  refine ⟨w1, ?_⟩
                  have w3 : AddDepositR eE.1 (nI a) (nI b) (nI v) x3 x4 (gI σ2 20).toNatClampNeg σ2 σ' := w2
                  rw [sz'] at w3
                  exact core_addD s2 hG2 hn6' w3 pl
                · exact (g_addD hG2 hn6' pl hL ⟨a, ha, rfl⟩ ⟨b, hb, rfl⟩ ⟨v, hv2, rfl⟩).mono (by omega) (Nat.le_refl _)
        · simp only [if_neg hr]
          exact ⟨_, _, _, rfl, rfl, (dep_none hC1 rfl).2.1, (dep_none hC1 rfl).2.2, hG1'⟩
      · simp only [if_neg h3, i00, if_true]
        by_cases h4 : x2 < 1
        · rw [if_pos h4]; exact bb
        · rw [if_neg h4, if_pos (Int32.not_le.mp (fun h => h3 ⟨Int32.not_lt.mp h4, h⟩))]; exact bb
  · simp only [if_neg h1, if_neg (show ¬ ((0 ≤ x1 ∧ x1 ≤ 5) ∧ x1 ≠ gI τ 25) from fun z => h1 z.1), i00, if_true]
    exact bb
end DEP
