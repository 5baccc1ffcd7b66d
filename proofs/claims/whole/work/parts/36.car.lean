section CAR
variable {eE : Nat × Nat} {μ ν σ σ' τ τ' τ0 : ST} {K L : Nat}
/-! sums of changes -/
theorem st_ext {τ τ' : ST} (h1 : τ'.1 = τ.1) (h2 : τ'.2.1 = τ.2.1) (h3 : ∀ b i, gA τ' b i = gA τ b i) (h4 : τ'.2.2.2 = τ.2.2.2) : τ' = τ := by
  obtain ⟨a, b, c, d⟩ := τ
  obtain ⟨a', b', c', d'⟩ := τ'
  have e1 : a' = a := h1
  have e2 : b' = b := h2
  have e3 : c' = c := funext fun i => funext fun j => h3 i j
  have e4 : d' = d := h4
  subst e1 e2 e3 e4
  rfl
def addA (τ : ST) (δ : Nat → Nat → Int32) : ST := (τ.1, τ.2.1, fun b i => τ.2.2.1 b i + δ b i, τ.2.2.2)
theorem gA_addA {δ : Nat → Nat → Int32} {b i : Nat} : gA (addA τ δ) b i = gA τ b i + δ b i := rfl
theorem gI_addA {δ : Nat → Nat → Int32} {j : Nat} : gI (addA τ δ) j = gI τ j := rfl
theorem nO_addA {δ : Nat → Nat → Int32} : nO (addA τ δ) = nO τ := rfl
theorem nD_addA {δ : Nat → Nat → Int32} : nD (addA τ δ) = nD τ := rfl
theorem l_addA {δ : Nat → Nat → Int32} : (addA τ δ).2.1 = τ.2.1 := rfl
theorem r_addA {δ : Nat → Nat → Int32} : (addA τ δ).2.2.2 = τ.2.2.2 := rfl
theorem addA_0 {δ : Nat → Nat → Int32} (h : ∀ b i, δ b i = 0) : addA τ δ = τ := st_ext rfl rfl (fun b i => by rw [gA_addA, h, Int32.add_zero]) rfl
theorem addA_2 {δ δ' : Nat → Nat → Int32} : addA (addA τ δ) δ' = addA τ (fun b i => δ b i + δ' b i) := st_ext rfl rfl (fun b i => by rw [gA_addA, gA_addA, gA_addA, Int32.add_assoc]) rfl
theorem addA_c {δ δ' : Nat → Nat → Int32} (h : ∀ b i, δ b i = δ' b i) : addA τ δ = addA τ δ' := st_ext rfl rfl (fun b i => by rw [gA_addA, gA_addA, h]) rfl
def one (b0 i0 : Nat) (v : Int32) (b i : Nat) : Int32 := if b = b0 ∧ i = i0 then v else 0
theorem sA_one {b0 i0 : Nat} {v : Int32} : sA τ b0 i0 (gA τ b0 i0 + v) = addA τ (one b0 i0 v) := st_ext rfl rfl (fun b i => by
  rw [gA_sA, gA_addA]
  unfold one
  by_cases h1 : b = b0
  · by_cases h2 : i = i0
    · rw [if_pos h1, if_pos h2, if_pos ⟨h1, h2⟩, h1, h2]
    · rw [if_pos h1, if_neg h2, if_neg (fun z => h2 z.2), Int32.add_zero]
  · rw [if_neg h1, if_neg (fun z => h1 z.1), Int32.add_zero]) rfl
theorem sA_oneS {b0 i0 : Nat} {v : Int32} : sA τ b0 i0 (gA τ b0 i0 - v) = addA τ (one b0 i0 (-v)) := by
  rw [Int32.sub_eq_add_neg, sA_one]
def dlt (a k : Nat) (v : Int32) (b i : Nat) : Int32 := if k = 0 then (if b = 9 ∧ i = a then v else 0) else if (k - 1) % 6 = a then 0 else if b = 12 ∧ i = cem a k then -v else if b = 12 ∧ i = cel a k then v else 0
theorem chg_add {a k : Nat} {v : Int32} (ha : a < 6) : chg τ a k v = addA τ (dlt a k v) := by
  by_cases h0 : k = 0
  · subst h0
    rw [chg_0, sA_one]
    rfl
  · by_cases h1 : (k - 1) % 6 = a
    · rw [chg_i h0 h1, addA_0]
      intro b i
      unfold dlt
      rw [if_neg h0, if_pos h1]
    · rw [chg_l h0 h1]
      have hne := cc_ne ha h1
      refine st_ext rfl rfl (fun b i => ?_) rfl
      rw [gA_addA]
      unfold dlt
      rw [if_neg h0, if_neg h1, gA_sA, gA_sA]
      by_cases c1 : b = 12
      · by_cases c2 : i = cem a k
        · rw [if_pos c1, if_pos c2, if_pos ⟨c1, c2⟩, c1, c2, Int32.sub_eq_add_neg]
        · by_cases c3 : i = cel a k
          · rw [if_pos c1, if_neg c2, if_pos c1, if_pos c3, if_neg (fun z => c2 z.2), if_pos ⟨c1, c3⟩, c1, c3]
          · rw [if_pos c1, if_neg c2, if_pos c1, if_neg c3, if_neg (fun z => c2 z.2), if_neg (fun z => c3 z.2), Int32.add_zero]
      · rw [if_neg c1, if_neg c1, if_neg (fun z => c1 z.1), if_neg (fun z => c1 z.1), Int32.add_zero]
theorem dlt_0 {a k b i : Nat} : dlt a k 0 b i = 0 := by
  unfold dlt
  split
  · split <;> rfl
  · split
    · rfl
    · split
      · decide
      · split <;> rfl
theorem dlt_b {a k b i : Nat} {v : Int32} (h1 : b ≠ 9) (h2 : b ≠ 12) : dlt a k v b i = 0 := by
  unfold dlt
  rw [if_neg (fun z : b = 9 ∧ i = a => h1 z.1), if_neg (fun z : b = 12 ∧ i = cem a k => h2 z.1), if_neg (fun z : b = 12 ∧ i = cel a k => h2 z.1)]
  split
  · rfl
  · split <;> rfl
theorem Ab_0 : Ab K 0 := ⟨by show -(K : Int) ≤ 0; omega, by show (0 : Int) ≤ K; omega⟩
theorem Ab_dlt {a k b i D : Nat} {v : Int32} (hv : Ab D v) (hD : D < 2 ^ 31) : Ab D (dlt a k v b i) := by
  unfold dlt
  split
  · split
    · exact hv
    · exact Ab_0
  · split
    · exact Ab_0
    · split
      · exact hv.neg hD
      · split
        · exact hv
        · exact Ab_0
def sm (h : Nat → Int32) : Nat → Int32
  | 0 => 0
  | n + 1 => sm h n + h n
theorem sm_0 {h : Nat → Int32} : ∀ n, (∀ j, j < n → h j = 0) → sm h n = 0
  | 0, _ => rfl
  | n + 1, hz => by
    show sm h n + h n = 0
    rw [sm_0 n (fun j hj => hz j (by omega)), hz n (by omega)]
    rfl
theorem sm_c {h h' : Nat → Int32} : ∀ n, (∀ j, j < n → h j = h' j) → sm h n = sm h' n
  | 0, _ => rfl
  | n + 1, hz => by
    show sm h n + h n = sm h' n + h' n
    rw [sm_c n (fun j hj => hz j (by omega)), hz n (by omega)]
theorem sm_split {h : Nat → Int32} {i : Nat} : ∀ n, i < n → sm h n = sm (fun j => if j = i then 0 else h j) n + h i
  | 0, hi => absurd hi (Nat.not_lt_zero _)
  | n + 1, hi => by
    show sm h n + h n = (sm (fun j => if j = i then 0 else h j) n + (if n = i then 0 else h n)) + h i
    by_cases c : n = i
    · rw [if_pos c, Int32.add_zero, c, sm_c i (h' := fun j => if j = i then 0 else h j) (fun j hj => (if_neg (by omega)).symm)]
    · rw [if_neg c, sm_split (i := i) n (by omega), Int32.add_assoc, Int32.add_assoc, Int32.add_comm (h i) (h n)]
/-- of one term alone -/
theorem sm_1 {h : Nat → Int32} {i n : Nat} (hi : i < n) (hz : ∀ j, j < n → j ≠ i → h j = 0) : sm h n = h i := by
  rw [sm_split n hi, sm_0 n (fun j hj => by
    by_cases c : j = i
    · rw [if_pos c]
    · rw [if_neg c]
      exact hz j hj c), Int32.zero_add]
theorem sm_perm {b : Nat → Nat} {n : Nat} : ∀ (R : Nat) (h : Nat → Int32), (∀ q, q < R → b q < n) → (∀ p q, p < R → q < R → b p = b q → p = q) → (∀ j, j < n → (∀ q, q < R → b q ≠ j) → h j = 0) → sm (fun q => h (b q)) R = sm h n
  | 0, h, _, _, h3 => (sm_0 n (fun j hj => h3 j hj (fun q hq => absurd hq (Nat.not_lt_zero _)))).symm
  | R + 1, h, h1, h2, h3 => by
    show sm (fun q => h (b q)) R + h (b R) = sm h n
    rw [sm_split n (h1 R (by omega)), ← sm_perm R (fun j => if j = b R then 0 else h j) (fun q hq => h1 q (by omega)) (fun p q hp hq => h2 p q (by omega) (by omega)) (fun j hj hq => by
      by_cases c : j = b R
      · exact if_pos c
      · refine (if_neg c).trans (h3 j hj (fun q hq2 => ?_))
        by_cases cq : q = R
        · rw [cq]; exact fun z => c z.symm
        · exact hq q (by omega))]
    rw [sm_c R (h' := fun q => if b q = b R then 0 else h (b q)) (fun q hq => (if_neg (fun z => by
      have := h2 q R (by omega) (by omega) z
      omega)).symm)]
theorem Ab_sm {h : Nat → Int32} {D : Nat} (hh : ∀ j, Ab D (h j)) : ∀ n, D * n < 2 ^ 31 → Ab (D * n) (sm h n)
  | 0, _ => Ab_0
  | n + 1, hn => by
    rw [Nat.mul_succ] at hn ⊢
    exact (Ab_sm hh n (by omega)).add (hh n) hn
/-! what carrying out an offer changes -/
def dof (τ : ST) (me x k : Nat) (s : PZ) (dg : Nat) (j b i : Nat) : Int32 := dlt (oN τ j) k (-(nI (cst (rt τ k (oN τ j) me) (zK s j)))) b i + dlt (oN τ j) x (nI (zA s j)) b i + one 20 j (-(nI dg)) b i + one 19 j (-(nI (zA s j))) b i
theorem one_0 {b0 i0 b i : Nat} : one b0 i0 0 b i = 0 := by
  unfold one
  split <;> rfl
theorem one_n {b0 i0 b i : Nat} {v : Int32} (h : b ≠ b0 ∨ i ≠ i0) : one b0 i0 v b i = 0 := if_neg (fun z => h.elim (fun y => y z.1) (fun y => y z.2))
theorem one_y {b0 i0 : Nat} {v : Int32} : one b0 i0 v b0 i0 = v := if_pos ⟨rfl, rfl⟩
theorem n0 : -(nI 0) = 0 := by decide
theorem cst_0 {r : Nat} : cst r 0 = 0 := by unfold cst; omega
theorem a4 : (0 : Int32) + 0 + 0 + 0 = 0 := by decide
theorem dof_0 {me x k j b i : Nat} {s : PZ} (h1 : zK s j = 0) (h2 : zA s j = 0) : dof τ me x k s 0 j b i = 0 := by
  unfold dof
  rw [h1, h2, cst_0, n0, show nI 0 = 0 by decide, dlt_0, dlt_0, one_0, one_0, a4]
theorem dof_dead {me x k j dg b i : Nat} {s : PZ} (h1 : zK s j = 0) (h2 : zA s j = 0) : dof τ me x k s dg j b i = one 20 j (-(nI dg)) b i := by
  unfold dof
  rw [h1, h2, cst_0, n0, show nI 0 = 0 by decide, dlt_0, dlt_0, one_0, Int32.add_zero, Int32.zero_add, Int32.zero_add]
theorem dof_b {me x k j dg b i : Nat} {s : PZ} (h1 : b ≠ 9) (h2 : b ≠ 12) : dof τ me x k s dg j b i = one 20 j (-(nI dg)) b i + one 19 j (-(nI (zA s j))) b i := by
  unfold dof
  rw [dlt_b h1 h2, dlt_b h1 h2, Int32.add_zero, Int32.zero_add]
theorem dof_n {me x k j dg b i : Nat} {s : PZ} (h1 : b ≠ 9) (h2 : b ≠ 12) (h3 : b ≠ 19) (h4 : b ≠ 20) : dof τ me x k s dg j b i = 0 := by
  rw [dof_b h1 h2, one_n (Or.inl h4), one_n (Or.inl h3), Int32.add_zero]
theorem dof_st {me x k j dg : Nat} {s : PZ} (ho : oN τ j < 6) : sA (sA (chg (chg τ0 (oN τ j) k (-(nI (cst (rt τ k (oN τ j) me) (zK s j))))) (oN τ j) x (nI (zA s j))) 20 j (gA (chg (chg τ0 (oN τ j) k (-(nI (cst (rt τ k (oN τ j) me) (zK s j))))) (oN τ j) x (nI (zA s j))) 20 j - nI dg)) 19 j (gA (sA (chg (chg τ0 (oN τ j) k (-(nI (cst (rt τ k (oN τ j) me) (zK s j))))) (oN τ j) x (nI (zA s j))) 20 j (gA (chg (chg τ0 (oN τ j) k (-(nI (cst (rt τ k (oN τ j) me) (zK s j))))) (oN τ j) x (nI (zA s j))) 20 j - nI dg)) 19 j - nI (zA s j)) = addA τ0 (dof τ me x k s dg j) := by
  rw [sA_oneS, sA_oneS, chg_add ho, chg_add ho, addA_2, addA_2, addA_2]
  exact addA_c (fun b i => by
    unfold dof
    rw [Int32.add_assoc, Int32.add_assoc])
/-! frames of the class's cells -/
def FC (σ σ1 : ST) : Prop := (∀ j, gI σ1 j = gI σ j) ∧ (∀ b i, 3 ≤ b → gA σ1 b i = gA σ b i) ∧ (∀ i, gR σ1 1 i = gR σ 1 i) ∧ oq σ1 = oq σ
theorem FC.trans {σ1 σ2 : ST} (h : FC σ σ1) (h' : FC σ1 σ2) : FC σ σ2 := ⟨fun j => (h'.1 j).trans (h.1 j), fun b i hb => (h'.2.1 b i hb).trans (h.2.1 b i hb), fun i => (h'.2.2.1 i).trans (h.2.2.1 i), h'.2.2.2.trans h.2.2.2⟩
theorem FC.cx {σ1 : ST} {me x k n : Nat} {f b : Nat → Nat} (h : FC σ σ1) (hX : CX σ me x k f b n) : CX σ1 me x k f b n := by
  obtain ⟨x1, x2, x3, ⟨x4, x5⟩, x6⟩ := hX
  refine ⟨(h.1 _).trans x1, (h.1 _).trans x2, (h.1 _).trans x3, ⟨(h.1 _).trans x4, fun p hp => ?_⟩, fun o ho => (h.2.1 _ _ (by decide)).trans (x6 o ho)⟩
  rw [h.2.2.1, h.2.2.2]
  exact x5 p hp
theorem FC.cp {σ1 : ST} {b : Nat → Nat} {s : PZ} (h : FC σ σ1) (hP : CP σ b s) : CP σ1 b s := by
  obtain ⟨x1, x2, x3, x4, x5, x6⟩ := hP
  exact ⟨(h.1 _).trans x1, (h.1 _).trans x2, (h.1 _).trans x3, (h.1 _).trans x4, fun o ho => (h.2.1 _ _ (by decide)).trans (x5 o ho), fun p hp => ⟨(h.2.1 _ _ (by decide)).trans (x6 p hp).1, (h.2.1 _ _ (by decide)).trans (x6 p hp).2⟩⟩
theorem FC_sP {q j : Nat} {v : Int32} : FC σ (sP σ q j v) := ⟨fun _ => rfl, fun _ _ _ => rfl, fun _ => rfl, rfl⟩
theorem FC_sA {i : Nat} {v : Int32} : FC σ (sA σ 0 i v) := ⟨fun _ => rfl, fun b i hb => gA_ne (by omega), fun _ => rfl, rfl⟩
theorem s_chg {a k : Nat} {v : Int32} (hC : Core eE μ ν σ τ) (ha : a < 6) (hk : k < 13) : ∃ σ1 : ST, ST_change (nI a) (nI k) v σ = some σ1 ∧ Core eE μ ν σ1 (chg τ a k v) ∧ FC σ σ1 := by
  unfold ST_change
  by_cases h0 : k = 0
  · subst h0
    obtain ⟨r1, r2⟩ := acc_rd hC ha
    rw [nI_clamp (lt31 ha)] at r1
    rw [if_pos (show nI 0 = 0 by decide), chg_0]
    simp only [nI_clamp (lt31 ha), if_neg (gin ha), r1, bd1, gd_ok r2, nmS, (hC.2.1.1 a ha).2.2.2.1]
    exact ⟨_, rfl, c_coin ha hC, FC_sP⟩
  · rw [if_neg (fun z => h0 ((nI_k0 hk).mp z)), TL_iss (by omega) hk, TL_cur (by omega) hk]
    by_cases h1 : (k - 1) % 6 = a
    · rw [chg_i h0 h1]
      simp only [bd1]
      rw [if_pos (by rw [h1])]
      exact ⟨_, rfl, hC, ⟨fun _ => rfl, fun _ _ _ => rfl, fun _ => rfl, rfl⟩⟩
    · rw [chg_l h0 h1]
      simp only [bd1]
      rw [if_neg (fun z => h1 ((nI_eq (by omega) (by omega)).mp z).symm)]
      rw [LN_grow_eq hC (LN_cel ha hk) (LN_cem ha hk) (cel_lt ha hk) (cem_lt ha hk) (cc_ne ha h1)]
      exact ⟨_, rfl, c_bal (c_bal hC), FC_sA.trans FC_sA⟩
theorem c_g {j : Nat} {v : Int32} (hj : j < nO τ) (h : Core eE μ ν σ τ) : Core eE μ ν (sP σ (oq σ j) 5 v) (sA τ 20 j v) := by
  obtain ⟨h1, h2, h3, h4, h5, h6, h7, h8⟩ := h
  have hk := (h4.2.1 j hj).2.1
  refine ⟨h1, CA_mA (by omega) (CA_sP (by rw [hk.2]; decide) h2), CL_mA (by omega) h3, ⟨h4.1, fun i hi => ?_, h4.2.2⟩, CD_mA (by omega) (CD_sP (by rw [hk.2]; decide) h5), h6, h7, QT_sA (by omega) h8⟩
  obtain ⟨e1, e2, f0, f1, f2, f3, f4, f5⟩ := h4.2.1 i hi
  refine ⟨e1, e2, ?_⟩
  show pP (sP σ (oq σ j) 5 v) (oq σ i) 0 = _ ∧ pP (sP σ (oq σ j) 5 v) (oq σ i) 1 = _ ∧ pP (sP σ (oq σ j) 5 v) (oq σ i) 2 = _ ∧ pP (sP σ (oq σ j) 5 v) (oq σ i) 3 = _ ∧ pP (sP σ (oq σ j) 5 v) (oq σ i) 4 = _ ∧ pP (sP σ (oq σ j) 5 v) (oq σ i) 5 = _
  by_cases hia : i = j
  · subst hia
    simp only [pP_sP, gA_sA, reduceIte, Nat.reduceEqDiff]
    exact ⟨f0, f1, f2, f3, f4, trivial⟩
  · have hne : oq σ i ≠ oq σ j := fun z => hia (h4.2.2 i j hi hj z)
    simp only [pP_sP, gA_sA, if_neg hne, if_neg hia, reduceIte, Nat.reduceEqDiff]
    exact ⟨f0, f1, f2, f3, f4, f5⟩
theorem c_w {j : Nat} {v : Int32} (hj : j < nO τ) (h : Core eE μ ν σ τ) : Core eE μ ν (sP σ (oq σ j) 3 v) (sA τ 19 j v) := by
  obtain ⟨h1, h2, h3, h4, h5, h6, h7, h8⟩ := h
  have hk := (h4.2.1 j hj).2.1
  refine ⟨h1, CA_mA (by omega) (CA_sP (by rw [hk.2]; decide) h2), CL_mA (by omega) h3, ⟨h4.1, fun i hi => ?_, h4.2.2⟩, CD_mA (by omega) (CD_sP (by rw [hk.2]; decide) h5), h6, h7, QT_sA (by omega) h8⟩
  obtain ⟨e1, e2, f0, f1, f2, f3, f4, f5⟩ := h4.2.1 i hi
  refine ⟨e1, e2, ?_⟩
  show pP (sP σ (oq σ j) 3 v) (oq σ i) 0 = _ ∧ pP (sP σ (oq σ j) 3 v) (oq σ i) 1 = _ ∧ pP (sP σ (oq σ j) 3 v) (oq σ i) 2 = _ ∧ pP (sP σ (oq σ j) 3 v) (oq σ i) 3 = _ ∧ pP (sP σ (oq σ j) 3 v) (oq σ i) 4 = _ ∧ pP (sP σ (oq σ j) 3 v) (oq σ i) 5 = _
  by_cases hia : i = j
  · subst hia
    simp only [pP_sP, gA_sA, reduceIte, Nat.reduceEqDiff]
    exact ⟨f0, f1, f2, trivial, f4, f5⟩
  · have hne : oq σ i ≠ oq σ j := fun z => hia (h4.2.2 i j hi hj z)
    simp only [pP_sP, gA_sA, if_neg hne, if_neg hia, reduceIte, Nat.reduceEqDiff]
    exact ⟨f0, f1, f2, f3, f4, f5⟩
/-! the class carries out -/
def dgV (τ : ST) (f : Nat → Nat) (s : PZ) (j : Nat) : Nat := if f (oN τ j) = 0 then gN τ j else zK s j
def DV (τ : ST) (me x k : Nat) (f b : Nat → Nat) (s : PZ) (p : Nat) (c i : Nat) : Int32 := sm (fun q => dof τ me x k s (dgV τ f s (b q)) (b q) c i) p
theorem DV_n {me x k p c i : Nat} {f b : Nat → Nat} {s : PZ} (h1 : c ≠ 9) (h2 : c ≠ 12) (h3 : c ≠ 19) (h4 : c ≠ 20) : DV τ me x k f b s p c i = 0 := sm_0 p (fun _ _ => dof_n h1 h2 h3 h4)
theorem DV_n2 {me x k p c i : Nat} {f b : Nat → Nat} {s : PZ} (h1 : c ≠ 9) (h2 : c ≠ 12) (h3 : ∀ q, q < p → b q ≠ i) : DV τ me x k f b s p c i = 0 := sm_0 p (fun q hq => by
  rw [dof_b h1 h2, one_n (Or.inr (fun z => h3 q hq z.symm)), one_n (Or.inr (fun z => h3 q hq z.symm)), Int32.add_zero])
theorem gA_DV {me x k p c i : Nat} {f b : Nat → Nat} {s : PZ} (h1 : c ≠ 9) (h2 : c ≠ 12) (h3 : c ≠ 19) (h4 : c ≠ 20) : gA (addA τ (DV τ me x k f b s p)) c i = gA τ c i := by
  rw [gA_addA, DV_n h1 h2 h3 h4, Int32.add_zero]
theorem car_L {x0 k0 a0 : Int32} {me x k n : Nat} {f b : Nat → Nat} {s : PZ} (hG : Good K L τ) (hR : Row τ x0 k0 a0 (nO τ) b n) (hB : PB τ f b s) (hr : zR s ≤ n) (hf : ∀ o, f o < 2 ^ 31) (hme : me < 6) (hx : x < 13) (hk : k < 13) : ∀ (m N p : Nat) (σ : ST), p + m = zR s → m < N → Core eE μ ν σ (addA τ (DV τ me x k f b s p)) → CX σ me x k f b n → CP σ b s → ∃ σ1, TK_carryOut_L2 N (nI p) σ = bd1 (ST_dropSpentOffers σ1) (fun σ135 => some σ135) ∧ Core eE μ ν σ1 (addA τ (DV τ me x k f b s (zR s))) ∧ CP σ1 b s
  | 0, N + 1, p, σ, hm, _, hC, hX, hP => by
    have hn := hG.2.2.2.2.1.2.1
    have hs := hR.2.2.2
    have e : p = zR s := by omega
    subst e
    show ∃ σ1, TK_carryOut_b2 _ _ _ = _ ∧ _
    unfold TK_carryOut_b2
    rw [hP.1, if_pos (nI_le (Nat.le_refl _) (by omega))]
    exact ⟨σ, rfl, hC, hP⟩
  | m + 1, N + 1, p, σ, hm, hN, hC, hX, hP => by
    have hn := hG.2.2.2.2.1.2.1
    have hs := hR.2.2.2
    have hp : p < zR s := by omega
    have hpn : p < n := by omega
    have hj : b p < nO τ := (hR.2.1 _ hpn).1
    obtain ⟨x1, x2, x3, ⟨x4, x5⟩, x6⟩ := hX
    obtain ⟨b1, b2, b3, b4, b5, b6⟩ := hB
    obtain ⟨k1, k2, k3, k4⟩ := b6 p hp
    have hja : b p < nO (addA τ (DV τ me x k f b s p)) := by rw [nO_addA]; exact hj
    obtain ⟨_, f1, _, fo, _, fw, _, fg⟩ := hC.2.2.2.1.2.1 (b p) hja
    obtain ⟨eo, ho⟩ := oN_ok hG hj
    obtain ⟨eg, hg1, hg2⟩ := gN_ok hG hj
    obtain ⟨ew, hw1, hw2⟩ := wN_ok hG hj
    have hpr := prc_le hG hj k1
    have ne : ∀ q, q < p → b q ≠ b p := fun q hq z => by
      have := hR.inj (show q < n by omega) hpn z
      omega
    have fo' : pP σ (oq σ (b p)) 1 = nI (oN τ (b p)) := fo.trans ((gA_DV (by decide) (by decide) (by decide) (by decide)).trans eo)
    have g20 : gA (addA τ (DV τ me x k f b s p)) 20 (b p) = nI (gN τ (b p)) := by
      rw [gA_addA, DV_n2 (by decide) (by decide) ne, Int32.add_zero, eg]
    have p3 := (hP.2.2.2.2.2 p hp).1
    have p4 := (hP.2.2.2.2.2 p hp).2
    show ∃ σ1, TK_carryOut_b2 _ _ _ = _ ∧ _
    unfold TK_carryOut_b2
    rw [hP.1, if_neg (nI_ge hp (by omega))]
    simp only [nI_clamp (show p < 2 ^ 31 by omega), if_neg (gin (show p < 12 by omega)), x5 _ hpn, bd1, gd_ok f1, fo', nmI, nI_clamp (lt31 ho), if_neg (gin ho), x6 _ ho, nI_1]
    by_cases c : f (oN τ (b p)) = 0
    · have k5 := k4 c
      have k6 : zA s (b p) = 0 := by rw [k2, k5, prc0 hG hj]
      simp only [if_pos (show nI (f (oN τ (b p))) = 0 by rw [c]; decide), nmS]
      have hC1 : Core eE μ ν (sP σ (oq σ (b p)) 5 0) (sA (addA τ (DV τ me x k f b s p)) 20 (b p) 0) := c_g hja hC
      have e1 : sA (addA τ (DV τ me x k f b s p)) 20 (b p) 0 = addA τ (DV τ me x k f b s (p + 1)) := by
        have z : (0 : Int32) = gA (addA τ (DV τ me x k f b s p)) 20 (b p) + -(nI (gN τ (b p))) := by
          rw [g20, ← Int32.sub_eq_add_neg, Int32.sub_self]
        rw [z, sA_one, addA_2]
        refine addA_c (fun c' i' => ?_)
        show DV τ me x k f b s p c' i' + one 20 (b p) (-(nI (gN τ (b p)))) c' i' = DV τ me x k f b s p c' i' + dof τ me x k s (dgV τ f s (b p)) (b p) c' i'
        rw [dof_dead k5 k6, show dgV τ f s (b p) = gN τ (b p) from if_pos c]
      rw [e1] at hC1
      exact car_L hG hR ⟨b1, b2, b3, b4, b5, b6⟩ hr hf hme hx hk m N (p + 1) (sP σ (oq σ (b p)) 5 0) (by omega) (by omega) hC1 (FC_sP.cx ⟨x1, x2, x3, ⟨x4, x5⟩, x6⟩) (FC_sP.cp hP)
    · have hGR : GR (addA τ (DV τ me x k f b s p)) := fun i hi => by
        rw [gA_DV (by decide) (by decide) (by decide) (by decide)]
        exact hG.gr i hi
      have ert : rt (addA τ (DV τ me x k f b s p)) k (oN τ (b p)) me = rt τ k (oN τ (b p)) me := by
        unfold rt rN
        rw [gA_DV (by decide) (by decide) (by decide) (by decide)]
      have q1 := ST_costOf_eq hC hGR (v := zK s (b p)) (k := k) (a := oN τ (b p)) (b := me) (by omega) hk ho hme
      rw [ert] at q1
      obtain ⟨σ1, e1, hC1, hF1⟩ := s_chg (v := -(nI (cst (rt τ k (oN τ (b p)) me) (zK s (b p))))) hC ho hk
      obtain ⟨σ2, e2, hC2, hF2⟩ := s_chg (v := nI (zA s (b p))) hC1 ho hx
      have hF := hF1.trans hF2
      have hX1 := hF1.cx ⟨x1, x2, x3, ⟨x4, x5⟩, x6⟩
      have hX2 := hF.cx ⟨x1, x2, x3, ⟨x4, x5⟩, x6⟩
      have hP1 := hF1.cp hP
      have hP2 := hF.cp hP
      have o2 : oq σ2 = oq σ := hF.2.2.2
      have hj2 : b p < nO (chg (chg (addA τ (DV τ me x k f b s p)) (oN τ (b p)) k (-(nI (cst (rt τ k (oN τ (b p)) me) (zK s (b p)))))) (oN τ (b p)) x (nI (zA s (b p)))) := by
        rw [chg_add ho, chg_add ho, nO_addA, nO_addA, nO_addA]
        exact hj
      obtain ⟨_, ff1, _, _, _, ffw, _, ffg⟩ := hC2.2.2.2.1.2.1 (b p) hj2
      rw [o2] at ff1 ffw ffg
      have hC3 := c_g (v := gA (chg (chg (addA τ (DV τ me x k f b s p)) (oN τ (b p)) k (-(nI (cst (rt τ k (oN τ (b p)) me) (zK s (b p)))))) (oN τ (b p)) x (nI (zA s (b p)))) 20 (b p) - nI (zK s (b p))) hj2 hC2
      rw [o2] at hC3
      obtain ⟨_, gf1, _, _, _, gfw, _, _⟩ := hC3.2.2.2.1.2.1 (b p) hj2
      have o3 : oq (sP σ2 (oq σ (b p)) 5 (gA (chg (chg (addA τ (DV τ me x k f b s p)) (oN τ (b p)) k (-(nI (cst (rt τ k (oN τ (b p)) me) (zK s (b p)))))) (oN τ (b p)) x (nI (zA s (b p)))) 20 (b p) - nI (zK s (b p)))) = oq σ := o2
      rw [o3] at gf1 gfw
      have hj3 : b p < nO (sA (chg (chg (addA τ (DV τ me x k f b s p)) (oN τ (b p)) k (-(nI (cst (rt τ k (oN τ (b p)) me) (zK s (b p)))))) (oN τ (b p)) x (nI (zA s (b p)))) 20 (b p) (gA (chg (chg (addA τ (DV τ me x k f b s p)) (oN τ (b p)) k (-(nI (cst (rt τ k (oN τ (b p)) me) (zK s (b p)))))) (oN τ (b p)) x (nI (zA s (b p)))) 20 (b p) - nI (zK s (b p)))) := hj2
      have hC4 := c_w (v := gA (sA (chg (chg (addA τ (DV τ me x k f b s p)) (oN τ (b p)) k (-(nI (cst (rt τ k (oN τ (b p)) me) (zK s (b p)))))) (oN τ (b p)) x (nI (zA s (b p)))) 20 (b p) (gA (chg (chg (addA τ (DV τ me x k f b s p)) (oN τ (b p)) k (-(nI (cst (rt τ k (oN τ (b p)) me) (zK s (b p)))))) (oN τ (b p)) x (nI (zA s (b p)))) 20 (b p) - nI (zK s (b p)))) 19 (b p) - nI (zA s (b p))) hj3 hC3
      rw [o3, dof_st ho, addA_2] at hC4
      have e4 : (addA τ fun c' i' => DV τ me x k f b s p c' i' + dof τ me x k s (zK s (b p)) (b p) c' i') = addA τ (DV τ me x k f b s (p + 1)) := addA_c (fun c' i' => by
        show DV τ me x k f b s p c' i' + dof τ me x k s (zK s (b p)) (b p) c' i' = DV τ me x k f b s p c' i' + dof τ me x k s (dgV τ f s (b p)) (b p) c' i'
        rw [show dgV τ f s (b p) = zK s (b p) from if_neg c])
      rw [e4] at hC4
      simp only [if_neg (nI_ne0 (show 0 < f (oN τ (b p)) by omega) (hf _)), p3, x3, x1, q1, e1, hX1.2.1, (hP1.2.2.2.2.2 p hp).2, e2, gd_ok ff1, ffg, (hP2.2.2.2.2.2 p hp).1, nmS, gd_ok gf1, gfw, gA_sP, (hP2.2.2.2.2.2 p hp).2]
      exact car_L hG hR ⟨b1, b2, b3, b4, b5, b6⟩ hr hf hme hx hk m N (p + 1) _ (by omega) (by omega) hC4 ((hF.trans (FC_sP.trans FC_sP)).cx ⟨x1, x2, x3, ⟨x4, x5⟩, x6⟩) ((hF.trans (FC_sP.trans FC_sP)).cp hP)
/-! the class drops what is spent -/
theorem get_sub {σ0 : ST} {xs : List Nat} {p y : Nat} (h : CSubO σ0 σ xs) (hp : p < xs.length) (h12 : xs.length ≤ 12) (hE : gE σ0 0 ∈ pL σ0 ∧ pK σ0 (gE σ0 0) = 0) (hc : xs.length ≤ pC σ0 (gE σ0 0)) (hy : pR σ0 (gE σ0 0) (xg xs p) = some y) : AL_get_OL (nI p) σ = some y := by
  obtain ⟨a1, a2, a3, a4, a5, a6, a7, a8, a9, a10, a11, a12, a13⟩ := h
  have hp' : p < 2 ^ 31 := by omega
  have hrd : pR σ (gE σ0 0) p = some y := (a2 p hp).trans hy
  have eE0 : gE σ 0 = gE σ0 0 := by rw [a12]
  have hE' : gE σ0 0 ∈ pL σ ∧ pK σ (gE σ0 0) = 0 := by rw [a8, a9]; exact hE
  have hpc : ¬ (nI p < 0 ∨ pC σ (gE σ0 0) ≤ p) := fun z => z.elim (nI_pos hp') (by rw [a11]; omega)
  unfold AL_get_OL OB_checkIndex PC_checkIndex AL_elementData_OL
  simp only [a1, bd1, if_neg (nI_pos hp'), if_pos (nI_lt hp (by omega)), eE0, gd_ok hE', nI_clamp hp', if_neg hpc, hrd]
theorem xg_app {i : Nat} {t : List Nat} : xg (List.range (i + 1) ++ t) i = i := by
  unfold xg
  rw [List.getD_eq_getElem?_getD, List.getElem?_append_left (by rw [List.length_range]; omega), List.getElem?_range (by omega)]
  rfl
theorem er_app {i : Nat} {t : List Nat} : (List.range (i + 1) ++ t).eraseIdx i = List.range i ++ t := by
  rw [List.range_succ, List.append_assoc, List.eraseIdx_append_of_length_le (by rw [List.length_range]; omega), List.length_range, Nat.sub_self]
  rfl
theorem fl_y {i : Nat} {keep : Nat → Bool} (h : keep i = true) : (List.range (i + 1)).filter keep = (List.range i).filter keep ++ [i] := by
  rw [List.range_succ, List.filter_append, List.filter_cons_of_pos h]
  rfl
theorem fl_n {i : Nat} {keep : Nat → Bool} (h : ¬ keep i = true) : (List.range (i + 1)).filter keep = (List.range i).filter keep := by
  rw [List.range_succ, List.filter_append, List.filter_cons_of_neg h]
  exact List.append_nil _
theorem drop_L {σ0 : ST} {n : Nat} {keep : Nat → Bool} (h12 : n ≤ 12) (hE : 0 < n → gE σ0 0 ∈ pL σ0 ∧ pK σ0 (gE σ0 0) = 0 ∧ n ≤ pC σ0 (gE σ0 0)) (hf : ∀ j, j < n → pR σ0 (gE σ0 0) j = some (oq σ0 j) ∧ oq σ0 j ∈ pL σ0 ∧ pK σ0 (oq σ0 j) = 2) (hk : ∀ j, j < n → (keep j = true ↔ ¬ (pP σ0 (oq σ0 j) 3 = 0 ∨ pP σ0 (oq σ0 j) 5 = 0))) : ∀ (i N : Nat) (σ : ST) (t : List Nat), i < N → CSubO σ0 σ (List.range i ++ t) → Srt (List.range i ++ t) n → ∃ σ1, ST_dropSpentOffers_L10 N (nI i - 1) σ = some σ1 ∧ CSubO σ0 σ1 ((List.range i).filter keep ++ t) ∧ Srt ((List.range i).filter keep ++ t) n
  | 0, N + 1, σ, t, _, h, hS => by
    show ∃ σ1, ST_dropSpentOffers_b10 _ _ _ = _ ∧ _
    unfold ST_dropSpentOffers_b10
    rw [if_pos (by decide)]
    exact ⟨σ, rfl, h, hS⟩
  | i + 1, N + 1, σ, t, hN, h, hS => by
    have hl := hS.len
    have hlen : (List.range (i + 1) ++ t).length = i + 1 + t.length := by rw [List.length_append, List.length_range]
    have hi : i < n := by omega
    obtain ⟨e1, e2, e3⟩ := hE (by omega)
    have hy := hf i hi
    have hget : AL_get_OL (nI i) σ = some (oq σ0 i) := get_sub h (by omega) (by omega) ⟨e1, e2⟩ (by omega) (by rw [xg_app]; exact hy.1)
    have hpo : oq σ0 i ∈ pL σ ∧ pK σ (oq σ0 i) = 2 := by
      rw [h.2.2.2.2.2.2.2.1, h.2.2.2.2.2.2.2.2.1]
      exact hy.2
    have hpp : pP σ = pP σ0 := h.2.2.2.2.2.2.2.2.2.1
    have em : nI i + -1 = nI i - 1 := (Int32.sub_eq_add_neg _ _).symm
    show ∃ σ1, ST_dropSpentOffers_b10 _ _ _ = _ ∧ _
    unfold ST_dropSpentOffers_b10
    rw [nI_pred, if_neg (nI_pos (by omega))]
    simp only [hget, bd1, gd_ok hpo, hpp, em]
    have rm : ¬ keep i = true → ∃ σ1, ST_dropSpentOffers_c48 (fun x1 σ => ST_dropSpentOffers_L10 N x1 σ) (nI i) σ = some σ1 ∧ CSubO σ0 σ1 ((List.range (i + 1)).filter keep ++ t) ∧ Srt ((List.range (i + 1)).filter keep ++ t) n := fun hno => by
      obtain ⟨y, σ1, r1, r2⟩ := rmO (p := i) h (by omega) (by omega) ⟨e1, e2⟩ (by omega) (fun j hj => ⟨_, hf _ (hS.2 j hj)⟩)
      have hS2 := hS.er (p := i) (by omega)
      rw [er_app] at r2 hS2
      unfold ST_dropSpentOffers_c48
      simp only [r1, bd2, em]
      rw [fl_n hno]
      exact drop_L h12 hE hf hk i N σ1 t (by omega) r2 hS2
    by_cases c1 : pP σ0 (oq σ0 i) 3 = 0
    · rw [if_pos c1]
      exact rm (fun z => (hk i hi).mp z (Or.inl c1))
    · rw [if_neg c1]
      by_cases c2 : pP σ0 (oq σ0 i) 5 = 0
      · rw [if_pos c2]
        exact rm (fun z => (hk i hi).mp z (Or.inr c2))
      · rw [if_neg c2]
        have hkp : keep i = true := (hk i hi).mpr (fun z => z.elim c1 c2)
        have ea : ∀ (l : List Nat), l ++ [i] ++ t = l ++ ([i] ++ t) := fun l => List.append_assoc _ _ _
        rw [List.range_succ, ea] at h hS
        rw [fl_y hkp, ea]
        exact drop_L h12 hE hf hk i N σ ([i] ++ t) (by omega) h hS
/-! the reference carries out -/
def DR (τ : ST) (me x k : Nat) (s : PZ) (p : Nat) (c i : Nat) : Int32 := sm (fun j => dof τ me x k s (zK s j) j c i) p
theorem DR_n {me x k p c i : Nat} {s : PZ} (h1 : c ≠ 9) (h2 : c ≠ 12) (h3 : c ≠ 19) (h4 : c ≠ 20) : DR τ me x k s p c i = 0 := sm_0 p (fun _ _ => dof_n h1 h2 h3 h4)
theorem gA_DR {me x k p c i : Nat} {s : PZ} (h1 : c ≠ 9) (h2 : c ≠ 12) (h3 : c ≠ 19) (h4 : c ≠ 20) : gA (addA τ (DR τ me x k s p)) c i = gA τ c i := by
  rw [gA_addA, DR_n h1 h2 h3 h4, Int32.add_zero]
theorem lneg (n : Nat) : (-(lN n)).toInt32 = -(nI n) := by rw [Int64.toInt32_neg, lN_i]
theorem mcar_L {me x k : Nat} {f : Nat → Nat} {s : PZ} (hG : Good K L τ) (hM : MP τ f s) (hm : gI τ 25 = nI me) (hK : ∀ j, j < nO τ → zK s j ≤ 100000 ∧ zA s j ≤ 100000 ∧ (zK s j = 0 → zA s j = 0)) (hme : me < 6) (hx : x < 13) (hk : k < 13) : ∀ (m N p : Nat), p + m = nO τ → m < N → MD_carryOut_L2 N (nI x) (nI k) (nI p) (addA τ (DR τ me x k s p)) = MD_carryOut_L112 FU 0 0 (addA τ (DR τ me x k s (nO τ)))
  | 0, N + 1, p, hp, _ => by
    have hn := hG.2.2.2.2.1.2.1
    have e : p = nO τ := by omega
    show MD_carryOut_b2 _ _ _ _ _ = _
    unfold MD_carryOut_b2
    have e21 : gI (addA τ (DR τ me x k s p)) 21 = nI (nO τ) := gI_addA.trans hG.2.2.2.2.1.1
    rw [e21, if_pos (nI_le (by omega) (by omega)), e]
  | m + 1, N + 1, p, hp, hN => by
    have hn := hG.2.2.2.2.1.2.1
    have hj : p < nO τ := by omega
    have hjc : p < 12 := by omega
    obtain ⟨k1, k2, k3⟩ := hK p hj
    obtain ⟨eo, ho⟩ := oN_ok hG hj
    show MD_carryOut_b2 _ _ _ _ _ = _
    unfold MD_carryOut_b2
    have e21 : gI (addA τ (DR τ me x k s p)) 21 = nI (nO τ) := gI_addA.trans hG.2.2.2.2.1.1
    have e25 : gI (addA τ (DR τ me x k s p)) 25 = nI me := gI_addA.trans hm
    have e27 : gA (addA τ (DR τ me x k s p)) 27 p = nI (zK s p) := (gA_DR (by decide) (by decide) (by decide) (by decide)).trans (hM.2.2.2.2 p hjc).1
    have e28 : gA (addA τ (DR τ me x k s p)) 28 p = nI (zA s p) := (gA_DR (by decide) (by decide) (by decide) (by decide)).trans (hM.2.2.2.2 p hjc).2.1
    have e16 : gA (addA τ (DR τ me x k s p)) 16 p = nI (oN τ p) := (gA_DR (by decide) (by decide) (by decide) (by decide)).trans eo
    rw [e21, if_neg (nI_ge hj (by omega))]
    simp only [nI_clamp (lt31 hjc), if_neg (gin hjc), e27, nI_1]
    by_cases c : zK s p = 0
    · rw [if_pos (by rw [c]; decide)]
      have ed : addA τ (DR τ me x k s p) = addA τ (DR τ me x k s (p + 1)) := addA_c (fun c' i' => by
        show DR τ me x k s p c' i' = DR τ me x k s p c' i' + dof τ me x k s (zK s p) p c' i'
        rw [c, dof_0 c (k3 c), Int32.add_zero])
      rw [ed]
      exact mcar_L hG hM hm hK hme hx hk m N (p + 1) (by omega) (by omega)
    · have hGR : GR (addA τ (DR τ me x k s p)) := fun i hi => by
        rw [gA_DR (by decide) (by decide) (by decide) (by decide)]
        exact hG.gr i hi
      have ert : rt (addA τ (DR τ me x k s p)) k (oN τ p) me = rt τ k (oN τ p) me := by
        unfold rt rN
        rw [gA_DR (by decide) (by decide) (by decide) (by decide)]
      have q1 := MD_costOf_eq hGR (v := zK s p) (k := k) (a := oN τ p) (b := me) (by omega) hk ho hme
      rw [ert] at q1
      rw [if_neg (nI_nle (by omega) (by omega))]
      have f27 : ∀ (a' k' : Nat) (v' : Int32) (c' i' : Nat) (τ' : ST), a' < 6 → c' ≠ 9 → c' ≠ 12 → gA (chg τ' a' k' v') c' i' = gA τ' c' i' := fun a' k' v' c' i' τ' h h1 h2 => by
        rw [chg_add h, gA_addA, dlt_b h1 h2, Int32.add_zero]
      simp only [e16, nmI, nI_l (show zK s p < 2 ^ 31 by omega), e25, q1, bd1, MD_change_eq ho hk, lneg, f27 _ _ _ _ _ _ ho (show (28 : Nat) ≠ 9 by decide) (show (28 : Nat) ≠ 12 by decide), f27 _ _ _ _ _ _ ho (show (27 : Nat) ≠ 9 by decide) (show (27 : Nat) ≠ 12 by decide), e27, e28, nI_l (show zA s p < 2 ^ 31 by omega), MD_change_eq ho hx, lN_i, nmS, gA_ne (show (28 : Nat) ≠ 20 by decide)]
      rw [dof_st ho, addA_2]
      have ed : (addA τ fun c' i' => DR τ me x k s p c' i' + dof τ me x k s (zK s p) p c' i') = addA τ (DR τ me x k s (p + 1)) := rfl
      rw [ed]
      exact mcar_L hG hM hm hK hme hx hk m N (p + 1) (by omega) (by omega)
theorem xg_l {l : List Nat} {a i : Nat} (h : i < l.length) : xg (l ++ [a]) i = xg l i := by
  unfold xg
  rw [List.getD_eq_getElem?_getD, List.getD_eq_getElem?_getD, List.getElem?_append_left h]
theorem xg_r {l : List Nat} {a : Nat} : xg (l ++ [a]) l.length = a := by
  unfold xg
  rw [List.getD_eq_getElem?_getD, List.getElem?_append_right (Nat.le_refl _), Nat.sub_self]
  rfl
theorem fl_len {i : Nat} {keep : Nat → Bool} : ((List.range i).filter keep).length ≤ i := by
  have := List.length_filter_le keep (List.range i)
  rw [List.length_range] at this
  exact this
def MvC (τ : ST) (keep : Nat → Bool) (j : Nat) (τ1 : ST) : Prop := (∀ b i, 15 ≤ b → b ≤ 20 → i < ((List.range j).filter keep).length → gA τ1 b i = gA τ b (xg ((List.range j).filter keep) i)) ∧ (∀ b i, j ≤ i → gA τ1 b i = gA τ b i) ∧ (∀ b i, b < 15 ∨ 20 < b → gA τ1 b i = gA τ b i) ∧ (∀ i, gI τ1 i = gI τ i) ∧ τ1.2.1 = τ.2.1 ∧ τ1.2.2.2 = τ.2.2.2
theorem cmp_L {n : Nat} {keep : Nat → Bool} (hn : n ≤ 12) (h21 : gI τ 21 = nI n) (hk : ∀ j, j < n → gA τ 30 j = (if keep j = true then 0 else 1)) : ∀ (m N j : Nat) (τ1 : ST), j + m = n → m < N → MvC τ keep j τ1 → ∃ τ2, MD_carryOut_L112 N (nI ((List.range j).filter keep).length) (nI j) τ1 = some τ2 ∧ OSubO τ τ2 ((List.range n).filter keep)
  | 0, N + 1, j, τ1, hj, _, h => by
    obtain ⟨a1, a2, a3, a4, a5, a6⟩ := h
    have e : j = n := by omega
    subst e
    show ∃ τ2, MD_carryOut_b112 _ _ _ _ = some τ2 ∧ _
    unfold MD_carryOut_b112
    rw [a4, h21, if_pos (nI_le (Nat.le_refl _) (by omega))]
    simp only [nmS]
    exact ⟨_, rfl, by rw [gI_sI, if_pos rfl], fun b i h1 h2 h3 => a1 b i h1 h2 h3, fun i hi => (if_neg hi).trans (a4 i), a5, a3, a6⟩
  | m + 1, N + 1, j, τ1, hj, hN, h => by
    obtain ⟨a1, a2, a3, a4, a5, a6⟩ := h
    have hjn : j < n := by omega
    have hjc : j < 12 := by omega
    have hl := fl_len (i := j) (keep := keep)
    show ∃ τ2, MD_carryOut_b112 _ _ _ _ = some τ2 ∧ _
    unfold MD_carryOut_b112
    rw [a4, h21, if_neg (nI_ge hjn (by omega))]
    simp only [nI_clamp (lt31 hjc), if_neg (gin hjc), a3 30 j (Or.inr (by decide)), hk j hjn, nI_1]
    by_cases c : keep j = true
    · obtain ⟨τ2, e, m1, m2, m3, m4⟩ := mvo (τ := τ1) (x := j) (y := ((List.range j).filter keep).length) hjc (by omega)
      simp only [if_pos c, i00, if_true, e, bd1]
      have el : ((List.range (j + 1)).filter keep).length = ((List.range j).filter keep).length + 1 := by rw [fl_y c, List.length_append]; rfl
      rw [← el]
      refine cmp_L hn h21 hk m N (j + 1) τ2 (by omega) (by omega) ⟨fun b i h1 h2 h3 => ?_, fun b i hi => ?_, fun b i hb => ?_, fun i => (m2 i).trans (a4 i), m3.trans a5, m4.trans a6⟩
      · rw [el] at h3
        rw [m1, fl_y c]
        by_cases ci : i = ((List.range j).filter keep).length
        · rw [if_pos ⟨⟨h1, h2⟩, ci⟩, ci, xg_r]
          exact a2 b j (Nat.le_refl _)
        · rw [if_neg (fun z => ci z.2), xg_l (by omega)]
          exact a1 b i h1 h2 (by omega)
      · rw [m1, if_neg (fun z => by omega)]
        exact a2 b i (by omega)
      · rw [m1, if_neg (fun z => by omega)]
        exact a3 b i hb
    · simp only [if_neg c, i10, if_false]
      have el : (List.range (j + 1)).filter keep = (List.range j).filter keep := fl_n c
      rw [← el]
      refine cmp_L hn h21 hk m N (j + 1) τ1 (by omega) (by omega) ⟨fun b i h1 h2 h3 => ?_, fun b i hi => a2 b i (by omega), a3, a4, a5, a6⟩
      rw [el] at h3 ⊢
      exact a1 b i h1 h2 h3
/-! both -/
theorem rch {x0 k0 a0 : Int32} {n R : Nat} {b : Nat → Nat} (hR : Row τ x0 k0 a0 (nO τ) b n) (hr : R ≤ n) : (∀ q, q < R → b q < nO τ) ∧ (∀ p q, p < R → q < R → b p = b q → p = q) := ⟨fun q hq => (hR.2.1 q (by omega)).1, fun p q hp hq e => hR.inj (by omega) (by omega) e⟩
theorem b_in (b : Nat → Nat) (j : Nat) : ∀ R, (∀ q, q < R → b q ≠ j) ∨ ∃ q, q < R ∧ b q = j
  | 0 => Or.inl (fun q hq => absurd hq (Nat.not_lt_zero _))
  | R + 1 => by
    rcases b_in b j R with h | ⟨q, h1, h2⟩
    · by_cases c : b R = j
      · exact Or.inr ⟨R, by omega, c⟩
      · refine Or.inl (fun q hq => ?_)
        by_cases cq : q = R
        · rw [cq]; exact c
        · exact h q (by omega)
    · exact Or.inr ⟨q, by omega, h2⟩
def rB (b : Nat → Nat) (R j : Nat) : Prop := ∃ q, q < R ∧ b q = j
def dgW (τ : ST) (f b : Nat → Nat) (s : PZ) (j : Nat) : Nat := if f (oN τ j) = 0 ∧ zG s j = true then gN τ j else zK s j
theorem DV_eq {x0 k0 a0 : Int32} {me x k n c i : Nat} {f b : Nat → Nat} {s : PZ} (hR : Row τ x0 k0 a0 (nO τ) b n) (hB : PB τ f b s) (hr : zR s ≤ n) : DV τ me x k f b s (zR s) c i = sm (fun j => dof τ me x k s (dgW τ f b s j) j c i) (nO τ) := by
  obtain ⟨b1, b2, b3, b4, b5, b6⟩ := hB
  obtain ⟨r1, r2⟩ := rch hR hr
  unfold DV
  rw [← sm_perm (zR s) (fun j => dof τ me x k s (dgW τ f b s j) j c i) r1 r2 (fun j hj hq => by
    obtain ⟨e1, e2, e3⟩ := b5 j hq
    have : dgW τ f b s j = 0 := by
      unfold dgW
      rw [e3, if_neg (fun z => Bool.noConfusion z.2)]
      exact e1
    show dof τ me x k s (dgW τ f b s j) j c i = 0
    rw [this, dof_0 e1 e2])]
  refine sm_c _ (fun q hq => ?_)
  have : dgV τ f s (b q) = dgW τ f b s (b q) := by
    unfold dgV dgW
    by_cases cf : f (oN τ (b q)) = 0
    · rw [if_pos cf, if_pos ⟨cf, (b6 q hq).2.2.1.mpr (Or.inl cf)⟩]
    · rw [if_neg cf, if_neg (fun z => cf z.1)]
  rw [this]
def TV (τ : ST) (me x k : Nat) (f b : Nat → Nat) (s : PZ) (c i : Nat) : Int32 := sm (fun j => dof τ me x k s (dgW τ f b s j) j c i) (nO τ)
def kp (s : PZ) (j : Nat) : Bool := !zG s j
def xsk (τ : ST) (s : PZ) : List Nat := (List.range (nO τ)).filter (kp s)
theorem pz {f b : Nat → Nat} {s : PZ} (hG : Good K L τ) (hB : PB τ f b s) {j : Nat} (hj : j < nO τ) : zK s j ≤ gN τ j ∧ zA s j = prc τ j (zK s j) ∧ (zG s j = true ↔ ((f (oN τ j) = 0 ∧ zG s j = true) ∨ (zK s j ≠ 0 ∧ (zK s j = gN τ j ∨ zA s j = wN τ j)))) ∧ zA s j ≤ wN τ j := by
  obtain ⟨b1, b2, b3, b4, b5, b6⟩ := hB
  have h3 : zK s j ≤ gN τ j ∧ zA s j = prc τ j (zK s j) ∧ (zG s j = true ↔ ((f (oN τ j) = 0 ∧ zG s j = true) ∨ (zK s j ≠ 0 ∧ (zK s j = gN τ j ∨ zA s j = wN τ j)))) := by
    rcases b_in b j (zR s) with h | ⟨q, h1, h2⟩
    · obtain ⟨e1, e2, e3⟩ := b5 j h
      refine ⟨by omega, by rw [e1, prc0 hG hj]; exact e2, ?_⟩
      rw [e3]
      exact ⟨fun z => Bool.noConfusion z, fun z => z.elim (fun y => y.2) (fun y => absurd e1 y.1)⟩
    · obtain ⟨k1, k2, k3, k4⟩ := b6 q h1
      rw [h2] at k1 k2 k3 k4
      refine ⟨k1, k2, ⟨fun z => ?_, fun z => k3.mpr (z.elim (fun y => Or.inl y.1) Or.inr)⟩⟩
      rcases k3.mp z with y | y
      · exact Or.inl ⟨y, z⟩
      · exact Or.inr y
  refine ⟨h3.1, h3.2.1, h3.2.2, ?_⟩
  rw [h3.2.1]
  exact prc_le hG hj h3.1
theorem tvn {me x k c i : Nat} {f b : Nat → Nat} {s : PZ} (h1 : c ≠ 9) (h2 : c ≠ 12) (h3 : c ≠ 19) (h4 : c ≠ 20) : gA (addA τ (TV τ me x k f b s)) c i = gA τ c i := by
  rw [gA_addA]
  unfold TV
  rw [sm_0 _ (fun _ _ => dof_n h1 h2 h3 h4), Int32.add_zero]
theorem tv19 {me x k j : Nat} {f b : Nat → Nat} {s : PZ} (hG : Good K L τ) (hB : PB τ f b s) (hj : j < nO τ) : gA (addA τ (TV τ me x k f b s)) 19 j = nI (wN τ j - zA s j) := by
  rw [gA_addA]
  unfold TV
  rw [sm_1 hj (fun j' _ hne => by
    rw [dof_b (by decide) (by decide), one_n (Or.inl (by decide)), one_n (Or.inr (Ne.symm hne)), Int32.add_zero]), dof_b (by decide) (by decide), one_n (Or.inl (by decide)), one_y, Int32.zero_add, ← Int32.sub_eq_add_neg, (wN_ok hG hj).1, pk_sub (pz hG hB hj).2.2.2]
theorem dgle {j : Nat} {f b : Nat → Nat} {s : PZ} (hG : Good K L τ) (hB : PB τ f b s) (hj : j < nO τ) : dgW τ f b s j ≤ gN τ j := by
  unfold dgW
  split
  · exact Nat.le_refl _
  · exact (pz hG hB hj).1
theorem tv20 {me x k j : Nat} {f b : Nat → Nat} {s : PZ} (hG : Good K L τ) (hB : PB τ f b s) (hj : j < nO τ) : gA (addA τ (TV τ me x k f b s)) 20 j = nI (gN τ j - dgW τ f b s j) := by
  rw [gA_addA]
  unfold TV
  rw [sm_1 hj (fun j' _ hne => by
    rw [dof_b (by decide) (by decide), one_n (Or.inr (Ne.symm hne)), one_n (Or.inl (by decide)), Int32.add_zero]), dof_b (by decide) (by decide), one_y, one_n (Or.inl (by decide)), Int32.add_zero, ← Int32.sub_eq_add_neg, (gN_ok hG hj).1, pk_sub (dgle hG hB hj)]
theorem i_0 {m : Nat} (hm : m < 2 ^ 31) : nI m = 0 ↔ m = 0 := by
  have := nI_eq (a := m) (b := 0) hm (by decide)
  rw [nI_0] at this
  exact this
theorem hkeep {j : Nat} {f b : Nat → Nat} {s : PZ} (hG : Good K L τ) (hB : PB τ f b s) (hj : j < nO τ) : (wN τ j - zA s j = 0 ∨ gN τ j - dgW τ f b s j = 0) ↔ zG s j = true := by
  obtain ⟨k1, k2, k3, hAj⟩ := pz hG hB hj
  obtain ⟨_, g1, g2⟩ := gN_ok hG hj
  obtain ⟨_, w1, w2⟩ := wN_ok hG hj
  rw [k3]
  unfold dgW
  constructor
  · intro z
    rcases z with z | z
    · refine Or.inr ⟨fun z0 => ?_, Or.inr (by omega)⟩
      rw [z0, prc0 hG hj] at k2
      omega
    · by_cases cd : f (oN τ j) = 0 ∧ zG s j = true
      · exact Or.inl cd
      · rw [if_neg cd] at z
        exact Or.inr ⟨by omega, Or.inl (by omega)⟩
  · intro z
    rcases z with z | ⟨z1, z2 | z2⟩
    · right
      rw [if_pos z]
      omega
    · right
      split
      · omega
      · omega
    · left
      omega
theorem hkeep2 {me x k j : Nat} {f b : Nat → Nat} {s : PZ} (hG : Good K L τ) (hB : PB τ f b s) (hj : j < nO τ) : kp s j = true ↔ ¬ (gA (addA τ (TV τ me x k f b s)) 19 j = 0 ∨ gA (addA τ (TV τ me x k f b s)) 20 j = 0) := by
  have g2 := (gN_ok hG hj).2.2
  have w2 := (wN_ok hG hj).2.2
  rw [tv19 hG hB hj, tv20 hG hB hj, i_0 (by omega), i_0 (by omega), hkeep hG hB hj]
  unfold kp
  cases zG s j
  · exact ⟨fun _ z => Bool.noConfusion z, fun _ => rfl⟩
  · exact ⟨fun z => Bool.noConfusion z, fun z => absurd rfl z⟩
theorem drop_eq {n : Nat} {σ2 : ST} (h18 : gI σ 18 = nI n) (h : ST_dropSpentOffers_L10 FU (nI n - 1) σ = some σ2) : ST_dropSpentOffers σ = some σ2 := by
  unfold ST_dropSpentOffers AL_size_OL
  rw [h18]
  show nmI (nI n - 1) (fun x1_9 => ST_dropSpentOffers_L10 FU x1_9 σ) = some σ2
  exact h
theorem cls_car {x0 k0 a0 : Int32} {me x k n : Nat} {f b : Nat → Nat} {s : PZ} (hC : Core eE μ ν σ τ) (hG : Good K L τ) (hR : Row τ x0 k0 a0 (nO τ) b n) (hX : CX σ me x k f b n) (hP : CP σ b s) (hB : PB τ f b s) (hr : zR s ≤ n) (hf : ∀ o, f o < 2 ^ 31) (hme : me < 6) (hx : x < 13) (hk : k < 13) : ∃ σ1, TK_carryOut_L2 FU (nI 0) σ = bd1 (ST_dropSpentOffers σ1) (fun σ135 => some σ135) ∧ Core eE μ ν σ1 (addA τ (TV τ me x k f b s)) ∧ CP σ1 b s := by
  have hn := hG.2.2.2.2.1.2.1
  have hs := hR.2.2.2
  have start : Core eE μ ν σ (addA τ (DV τ me x k f b s 0)) := by
    rw [addA_0 (δ := DV τ me x k f b s 0) (fun _ _ => rfl)]
    exact hC
  obtain ⟨σ1, e1, hC1, hP1⟩ := car_L hG hR hB hr hf hme hx hk (zR s) FU 0 σ (Nat.zero_add _) (by rw [FUv]; omega) start hX hP
  have eDV : addA τ (DV τ me x k f b s (zR s)) = addA τ (TV τ me x k f b s) := addA_c (fun c i => DV_eq hR hB hr)
  rw [eDV] at hC1
  exact ⟨σ1, e1, hC1, hP1⟩
theorem cls_drop {me x k : Nat} {f b : Nat → Nat} {s : PZ} (hC1 : Core eE μ ν σ (addA τ (TV τ me x k f b s))) (hG : Good K L τ) (hB : PB τ f b s) : ∃ σ2, ST_dropSpentOffers σ = some σ2 ∧ CSubO σ σ2 (xsk τ s) ∧ Srt (xsk τ s) (nO τ) := by
  have hn := hG.2.2.2.2.1.2.1
  have nv : nO (addA τ (TV τ me x k f b s)) = nO τ := nO_addA
  obtain ⟨hL, hq, _⟩ := hC1.2.2.2.1
  rw [nv] at hL hq
  have h18 : gI σ 18 = nI (nO τ) := by
    rw [hC1.1.2.2.2.2.2.2.2.2.2.1, gI_addA]
    exact hG.2.2.2.2.1.1
  have st : CSubO σ σ (List.range (nO τ)) := ⟨by rw [List.length_range]; exact h18, fun j hj => by
    rw [List.length_range] at hj
    rw [xg_range hj], fun _ _ _ => rfl, rfl, rfl, rfl, rfl, rfl, rfl, rfl, rfl, rfl, fun _ _ => rfl⟩
  obtain ⟨σ2, d1, d2, d3⟩ := drop_L (keep := kp s) hn (fun h0 => by
    rcases hL with ⟨_, y⟩ | ⟨p1, p2, p3, _⟩
    · omega
    · exact ⟨p1, p2, p3⟩) (fun j hj => ⟨(hq j hj).1, (hq j hj).2.1⟩) (fun j hj => by
    rw [(hq j hj).2.2.2.2.2.1, (hq j hj).2.2.2.2.2.2.2]
    exact hkeep2 hG hB hj) (nO τ) FU σ [] (by rw [FUv]; omega) (by rw [List.append_nil]; exact st) (by rw [List.append_nil]; exact Srt_range _)
  rw [List.append_nil] at d2 d3
  exact ⟨σ2, drop_eq h18 d1, d2, d3⟩
theorem ref_car {me x k : Nat} {f b : Nat → Nat} {s : PZ} (hG : Good K L τ) (hM : MP τ f s) (hB : PB τ f b s) (hm : gI τ 25 = nI me) (hme : me < 6) (hx : x < 13) (hk : k < 13) : MD_carryOut_L2 FU (nI x) (nI k) (nI 0) τ = MD_carryOut_L112 FU 0 0 (addA τ (DR τ me x k s (nO τ))) := by
  have hn := hG.2.2.2.2.1.2.1
  have m1 := mcar_L hG hM hm (fun j hj => by
    obtain ⟨k1, k2, _, k4⟩ := pz hG hB hj
    have := (gN_ok hG hj).2.2
    have := (wN_ok hG hj).2.2
    exact ⟨by omega, by omega, fun z => by rw [k2, z, prc0 hG hj]⟩) hme hx hk (nO τ) FU 0 (Nat.zero_add _) (by rw [FUv]; omega)
  rw [addA_0 (δ := DR τ me x k s 0) (fun _ _ => rfl)] at m1
  exact m1
theorem ref_cmp {me x k : Nat} {f : Nat → Nat} {s : PZ} (hG : Good K L τ) (hM : MP τ f s) : ∃ τ2, MD_carryOut_L112 FU 0 0 (addA τ (DR τ me x k s (nO τ))) = some τ2 ∧ OSubO (addA τ (DR τ me x k s (nO τ))) τ2 (xsk τ s) := by
  have hn := hG.2.2.2.2.1.2.1
  obtain ⟨τ2, c1, c2⟩ := cmp_L (τ := addA τ (DR τ me x k s (nO τ))) (keep := kp s) hn (gI_addA.trans hG.2.2.2.2.1.1) (fun j hj => by
    rw [gA_DR (by decide) (by decide) (by decide) (by decide), (hM.2.2.2.2 j (by omega)).2.2]
    unfold kp
    cases zG s j <;> rfl) (nO τ) FU 0 (addA τ (DR τ me x k s (nO τ))) (Nat.zero_add _) (by rw [FUv]; omega) ⟨fun b i _ _ h3 => absurd h3 (Nat.not_lt_zero _), fun _ _ _ => rfl, fun _ _ _ => rfl, fun _ => rfl, rfl, rfl⟩
  rw [show ((List.range 0).filter (kp s)).length = 0 from rfl, nI_0] at c1
  exact ⟨τ2, c1, c2⟩
theorem agr {me x k c i : Nat} {f b : Nat → Nat} {s : PZ} (hci : c ≠ 20 ∨ zG s i = false) : gA (addA τ (DR τ me x k s (nO τ))) c i = gA (addA τ (TV τ me x k f b s)) c i := by
  rw [gA_addA, gA_addA]
  congr 1
  unfold DR TV
  refine sm_c _ (fun j hj => ?_)
  unfold dof
  by_cases cc : c = 20 ∧ i = j
  · rcases hci with y | y
    · exact absurd cc.1 y
    · rw [cc.2] at y
      rw [show dgW τ f b s j = zK s j from if_neg (fun z => by rw [y] at z; exact Bool.noConfusion z.2)]
  · have hcn : c ≠ 20 ∨ i ≠ j := by
      by_cases c3 : c = 20
      · exact Or.inr (fun z => cc ⟨c3, z⟩)
      · exact Or.inl c3
    rw [one_n hcn, one_n hcn]
theorem xs_k {s : PZ} {i : Nat} (hi : i < (xsk τ s).length) : zG s (xg (xsk τ s) i) = false := by
  have hmem : xg (xsk τ s) i ∈ xsk τ s := by
    unfold xg
    rw [List.getD_eq_getElem?_getD, List.getElem?_eq_getElem hi]
    exact List.getElem_mem hi
  have := (List.mem_filter.mp hmem).2
  unfold kp at this
  revert this
  cases zG s (xg (xsk τ s) i)
  · exact fun _ => rfl
  · exact fun z => Bool.noConfusion z
theorem car_O {me x k : Nat} {f b : Nat → Nat} {s : PZ} {τ2 : ST} (c2 : OSubO (addA τ (DR τ me x k s (nO τ))) τ2 (xsk τ s)) : OSubO (addA τ (TV τ me x k f b s)) τ2 (xsk τ s) := by
  obtain ⟨o1, o2, o3, o4, o5, o6⟩ := c2
  exact ⟨o1, fun c j h1 h2 h3 => (o2 c j h1 h2 h3).trans (agr (Or.inr (xs_k h3))), fun i hi => (o3 i hi).trans (gI_addA.trans gI_addA.symm), o4.trans (l_addA.trans l_addA.symm), fun c i hc => (o5 c i hc).trans (agr (Or.inl (by omega))), o6.trans (r_addA.trans r_addA.symm)⟩
theorem car_Ab {me x k c i : Nat} {f b : Nat → Nat} {s : PZ} (hG : Good K L τ) (hB : PB τ f b s) (hc : c = 9 ∨ c = 12) (h : Ab K (gA τ c i)) (hK : K + 2650000 < 2 ^ 31) : Ab (K + 2640100) (gA (addA τ (TV τ me x k f b s)) c i) := by
  have hn := hG.2.2.2.2.1.2.1
  rw [gA_addA]
  unfold TV
  have hd : ∀ j, Ab 220002 (if j < nO τ then dof τ me x k s (dgW τ f b s j) j c i else 0) := fun j => by
    by_cases hj : j < nO τ
    · rw [if_pos hj]
      obtain ⟨k1, k2, _, hAj⟩ := pz hG hB hj
      have g2 := (gN_ok hG hj).2.2
      have w2 := (wN_ok hG hj).2.2
      have hc' := cst_le (v := zK s j) (rt_le200 hG.gr k (oN τ j) me)
      unfold dof
      rw [one_n (Or.inl (by omega)), one_n (Or.inl (by omega)), Int32.add_zero, Int32.add_zero]
      have a1 : Ab 120001 (dlt (oN τ j) k (-(nI (cst (rt τ k (oN τ j) me) (zK s j)))) c i) := Ab_dlt ((Ab_nI (by omega) (by omega)).neg (by decide)) (by decide)
      have a2 : Ab 100000 (dlt (oN τ j) x (nI (zA s j)) c i) := Ab_dlt (Ab_nI (by omega) (by omega)) (by decide)
      exact (a1.add a2 (by decide)).mono (by decide)
    · rw [if_neg hj]
      exact Ab_0
  rw [sm_c (nO τ) (h' := fun j => if j < nO τ then dof τ me x k s (dgW τ f b s j) j c i else 0) (fun j hj => (if_pos hj).symm)]
  have hsum := Ab_sm hd (nO τ) (by omega)
  exact (h.add hsum (by omega)).mono (by omega)
theorem car_G {me x k : Nat} {f b : Nat → Nat} {s : PZ} {τ2 : ST} (hG : Good K L τ) (hB : PB τ f b s) (hS : Srt (xsk τ s) (nO τ)) (hO : OSubO (addA τ (TV τ me x k f b s)) τ2 (xsk τ s)) (hK : K + 2650000 < 2 ^ 31) : Good (K + 2640100) L τ2 := by
  have hG' := hG
  obtain ⟨q1, q2, q3, q4, ⟨o1, o2, o3, o4, o5⟩, q6⟩ := hG
  refine g_subO0 (τ := addA τ (TV τ me x k f b s)) ?_ ?_ ?_ ?_ ?_ (by rw [nO_addA]; exact o2) ?_ ?_ ?_ (by rw [nO_addA]; exact hS) hO
  · unfold GS
    rw [gI_addA, gI_addA, gI_addA, gI_addA]
    exact q1
  · intro i hi
    rw [tvn (c := 8) (by decide) (by decide) (by decide) (by decide), tvn (c := 11) (by decide) (by decide) (by decide) (by decide)]
    exact ⟨(q2 i hi).1, car_Ab hG' hB (Or.inl rfl) (q2 i hi).2.1 hK, (q2 i hi).2.2⟩
  · intro i hi
    rw [tvn (c := 13) (by decide) (by decide) (by decide) (by decide)]
    exact ⟨car_Ab hG' hB (Or.inr rfl) (q3 i hi).1 hK, (q3 i hi).2⟩
  · intro a c ha hc
    rw [tvn (by decide) (by decide) (by decide) (by decide)]
    exact q4 a c ha hc
  · have e21 : gA (addA τ (TV τ me x k f b s)) 21 = gA τ 21 := funext fun i => tvn (by decide) (by decide) (by decide) (by decide)
    have e22 : gA (addA τ (TV τ me x k f b s)) 22 = gA τ 22 := funext fun i => tvn (by decide) (by decide) (by decide) (by decide)
    have e23 : gA (addA τ (TV τ me x k f b s)) 23 = gA τ 23 := funext fun i => tvn (by decide) (by decide) (by decide) (by decide)
    have e24 : gA (addA τ (TV τ me x k f b s)) 24 = gA τ 24 := funext fun i => tvn (by decide) (by decide) (by decide) (by decide)
    unfold GD at q6 ⊢
    rw [e21, e22, e23, e24, nD_addA, gI_addA, gI_addA]
    exact q6
  · intro i hi
    have hxi := hS.2 i hi
    have hgi := xs_k hi
    generalize xg (xsk τ s) i = j at hxi hgi ⊢
    obtain ⟨r1, r2, r3, r4, _, _⟩ := o3 j hxi
    have w2 := (wN_ok hG' hxi).2.2
    have g2 := (gN_ok hG' hxi).2.2
    have hkk : ¬ (wN τ j - zA s j = 0 ∨ gN τ j - dgW τ f b s j = 0) := fun z => by
      have := (hkeep hG' hB hxi).mp z
      rw [hgi] at this
      exact Bool.noConfusion this
    rw [tvn (c := 15) (by decide) (by decide) (by decide) (by decide), tvn (c := 16) (by decide) (by decide) (by decide) (by decide), tvn (c := 17) (by decide) (by decide) (by decide) (by decide), tvn (c := 18) (by decide) (by decide) (by decide) (by decide)]
    exact ⟨r1, r2, r3, r4, ⟨wN τ j - zA s j, by omega, by omega, tv19 hG' hB hxi⟩, ⟨gN τ j - dgW τ f b s j, by omega, by omega, tv20 hG' hB hxi⟩⟩
  · intro i j hij hj
    rw [nO_addA] at hj
    rw [tvn (by decide) (by decide) (by decide) (by decide), tvn (by decide) (by decide) (by decide) (by decide)]
    exact o4 i j hij hj
  · obtain ⟨d, e1, e2, e3⟩ := o5
    refine ⟨d, e1, gI_addA.trans e2, fun j hj => ?_⟩
    rw [nO_addA] at hj
    rw [tvn (by decide) (by decide) (by decide) (by decide)]
    exact e3 j hj
theorem carry_ok {x0 k0 a0 : Int32} {me x k n : Nat} {f b : Nat → Nat} {s : PZ} (hC : Core eE μ ν σ τ) (hG : Good K L τ) (hR : Row τ x0 k0 a0 (nO τ) b n) (hX : CX σ me x k f b n) (hP : CP σ b s) (hM : MP τ f s) (hB : PB τ f b s) (hr : zR s ≤ n) (hf : ∀ o, f o < 2 ^ 31) (hm : gI τ 25 = nI me) (hme : me < 6) (hx : x < 13) (hk : k < 13) (hK : K + 2650000 < 2 ^ 31) : ∃ σ1 τ1, TK_carryOut σ = some σ1 ∧ MD_carryOut (nI x) (nI k) τ = some τ1 ∧ Core eE μ ν σ1 τ1 ∧ Good (K + 2640100) L τ1 ∧ CP σ1 b s ∧ (∀ j, j ≠ 21 → gI τ1 j = gI τ j) ∧ τ1.2.1 = τ.2.1 := by
  have hn := hG.2.2.2.2.1.2.1
  obtain ⟨σ1, e1, hC1, hP1⟩ := cls_car hC hG hR hX hP hB hr hf hme hx hk
  obtain ⟨σ2, e2, d2, d3⟩ := cls_drop hC1 hG hB
  have m1 := ref_car hG hM hB hm hme hx hk
  obtain ⟨τ2, c1, c2⟩ := ref_cmp (me := me) (x := x) (k := k) hG hM
  have hO := car_O (f := f) (b := b) c2
  have hC2 : Core eE μ ν σ2 τ2 := core_subO0 hC1 (by rw [nO_addA]; exact hn) (by rw [nO_addA]; exact d3) d2 hO
  rw [nI_0] at e1 m1
  obtain ⟨o1, o2, o3, o4, o5, o6⟩ := c2
  refine ⟨σ2, τ2, ?_, ?_, hC2, car_G hG hB d3 hO hK, ?_, fun j hj => (o3 j hj).trans gI_addA, o4.trans l_addA⟩
  · unfold TK_carryOut
    rw [e1, e2]
    rfl
  · unfold MD_carryOut
    rw [m1, c1]
  · obtain ⟨p1, p2, p3, p4, p5, p6⟩ := hP1
    have ga : ∀ c i, gA σ2 c i = gA σ1 c i := fun c i => by
      show σ2.2.2.1 c i = σ1.2.2.1 c i
      rw [d2.2.2.2.2.1]
    exact ⟨(d2.2.2.1 13 (by decide) (by decide)).trans p1, (d2.2.2.1 14 (by decide) (by decide)).trans p2, (d2.2.2.1 15 (by decide) (by decide)).trans p3, (d2.2.2.1 16 (by decide) (by decide)).trans p4, fun o ho => (ga _ _).trans (p5 o ho), fun p hp => ⟨(ga _ _).trans (p6 p hp).1, (ga _ _).trans (p6 p hp).2⟩⟩
end CAR
