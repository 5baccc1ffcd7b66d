section LST
variable {eE : Nat × Nat} {μ ν σ σ' τ τ' : ST} {K L : Nat}
def xg (xs : List Nat) (j : Nat) : Nat := xs.getD j 0
def Srt (xs : List Nat) (n : Nat) : Prop := (∀ i j, i < j → j < xs.length → xg xs i < xg xs j) ∧ ∀ j, j < xs.length → xg xs j < n
theorem Srt.inj {xs : List Nat} {n i j : Nat} (h : Srt xs n) (hi : i < xs.length) (hj : j < xs.length) (e : xg xs i = xg xs j) : i = j := by
  rcases Nat.lt_trichotomy i j with c | c | c
  · have := h.1 i j c hj
    omega
  · exact c
  · have := h.1 j i c hi
    omega
theorem Srt.ge {xs : List Nat} {n : Nat} (h : Srt xs n) : ∀ j, j < xs.length → j ≤ xg xs j
  | 0, _ => Nat.zero_le _
  | j + 1, hj => by
    have := h.ge j (by omega)
    have := h.1 j (j + 1) (by omega) hj
    omega
theorem Srt.len {xs : List Nat} {n : Nat} (h : Srt xs n) : xs.length ≤ n := by
  rcases Nat.eq_zero_or_pos xs.length with c | c
  · omega
  · have := h.ge (xs.length - 1) (by omega)
    have := h.2 (xs.length - 1) (by omega)
    omega
theorem xg_er {xs : List Nat} {p j : Nat} : xg (xs.eraseIdx p) j = xg xs (if j < p then j else j + 1) := by
  unfold xg
  rw [List.getD_eq_getElem?_getD, List.getD_eq_getElem?_getD, List.getElem?_eraseIdx]
  split <;> rfl
theorem Srt.er {xs : List Nat} {n p : Nat} (h : Srt xs n) (hp : p < xs.length) : Srt (xs.eraseIdx p) n := by
  have hl : (xs.eraseIdx p).length = xs.length - 1 := List.length_eraseIdx_of_lt hp
  constructor
  · intro i j hij hj
    rw [hl] at hj
    rw [xg_er, xg_er]
    apply h.1
    · split <;> split <;> omega
    · split <;> omega
  · intro j hj
    rw [hl] at hj
    rw [xg_er]
    apply h.2
    split <;> omega
theorem xg_range {n j : Nat} (h : j < n) : xg (List.range n) j = j := by
  unfold xg
  rw [List.getD_eq_getElem?_getD, List.getElem?_range h]
  rfl
theorem Srt_range (n : Nat) : Srt (List.range n) n := by
  constructor
  · intro i j hij hj
    rw [List.length_range] at hj
    rw [xg_range (by omega), xg_range hj]
    exact hij
  · intro j hj
    rw [List.length_range] at hj
    rw [xg_range hj]
    exact hj
/-- the class's list in σ is that of σ0 at the places xs -/
def CSubO (σ0 σ : ST) (xs : List Nat) : Prop := gI σ 18 = nI xs.length ∧ (∀ j, j < xs.length → pR σ (gE σ0 0) j = pR σ0 (gE σ0 0) (xg xs j)) ∧ (∀ i, i ≠ 17 → i ≠ 18 → gI σ i = gI σ0 i) ∧ σ.2.1 = σ0.2.1 ∧ σ.2.2.1 = σ0.2.2.1 ∧ σ.2.2.2.1 = σ0.2.2.2.1 ∧ σ.2.2.2.2.1 = σ0.2.2.2.2.1 ∧ pL σ = pL σ0 ∧ pK σ = pK σ0 ∧ pP σ = pP σ0 ∧ pC σ = pC σ0 ∧ gE σ = gE σ0 ∧ ∀ q, q ≠ gE σ0 0 → pR σ q = pR σ0 q
def OSubO (τ0 τ : ST) (xs : List Nat) : Prop := gI τ 21 = nI xs.length ∧ (∀ b j, 15 ≤ b → b ≤ 20 → j < xs.length → gA τ b j = gA τ0 b (xg xs j)) ∧ (∀ i, i ≠ 21 → gI τ i = gI τ0 i) ∧ τ.2.1 = τ0.2.1 ∧ (∀ b i, b < 15 ∨ 20 < b → gA τ b i = gA τ0 b i) ∧ τ.2.2.2 = τ0.2.2.2
theorem CSubO.start (hC : Core eE μ ν σ τ) (hG : Good K L τ) : CSubO σ σ (List.range (nO τ)) := by
  have g1 : gI τ 21 = nI (nO τ) := hG.2.2.2.2.1.1
  refine ⟨?_, fun j hj => ?_, fun _ _ _ => rfl, rfl, rfl, rfl, rfl, rfl, rfl, rfl, rfl, rfl, fun _ _ => rfl⟩
  · rw [List.length_range, ← g1]
    exact hC.1.2.2.2.2.2.2.2.2.2.1
  · rw [List.length_range] at hj
    rw [xg_range hj]
theorem rmO {σ0 : ST} {xs : List Nat} {p : Nat} (h : CSubO σ0 σ xs) (hp : p < xs.length) (h12 : xs.length ≤ 12) (hE : gE σ0 0 ∈ pL σ0 ∧ pK σ0 (gE σ0 0) = 0) (hc : xs.length ≤ pC σ0 (gE σ0 0)) (hf : ∀ j, j < xs.length → ∃ y, pR σ0 (gE σ0 0) (xg xs j) = some y ∧ y ∈ pL σ0 ∧ pK σ0 y = 2) : ∃ (y : Nat) (σ1 : ST), AL_remove_OL (nI p) σ = some (y, σ1) ∧ CSubO σ0 σ1 (xs.eraseIdx p) := by
  obtain ⟨a1, a2, a3, a4, a5, a6, a7, a8, a9, a10, a11, a12, a13⟩ := h
  have hl : (xs.eraseIdx p).length = xs.length - 1 := List.length_eraseIdx_of_lt hp
  have hp' : p < 2 ^ 31 := by omega
  obtain ⟨y, hy, _⟩ := hf p hp
  have hrd : pR σ (gE σ0 0) p = some y := (a2 p hp).trans hy
  have eE0 : gE σ 0 = gE σ0 0 := by rw [a12]
  have hE' : gE σ0 0 ∈ pL σ ∧ pK σ (gE σ0 0) = 0 := by rw [a8, a9]; exact hE
  have hpc : ¬ (nI p < 0 ∨ pC σ (gE σ0 0) ≤ p) := fun z => z.elim (nI_pos hp') (by rw [a11]; omega)
  unfold AL_remove_OL OB_checkIndex PC_checkIndex
  simp only [a1, bd1, if_neg (nI_pos hp'), if_pos (nI_lt hp (by omega)), eE0, gd_ok hE', nI_clamp hp', if_neg hpc, hrd]
  unfold AL_fastRemove_OL
  have e1 : nI xs.length - 1 = nI (xs.length - 1) := by rw [show (1 : Int32) = nI 1 by decide, pk_sub (by omega)]
  have hne : ¬ ((18 : Nat) = 17) := by decide
  simp only [nmS, nmI, gI_sI, if_neg hne, a1, e1, pL_sI, pK_sI, pC_sI, pR_sI, gd_ok hE']
  have hn1 : xs.length - 1 < 2 ^ 31 := by omega
  have hpc2 : ¬ (nI (xs.length - 1) < 0 ∨ pC σ (gE σ0 0) ≤ xs.length - 1) := fun z => z.elim (nI_pos hn1) (by rw [a11]; omega)
  by_cases hb : nI (xs.length - 1) ≤ nI p
  · have hb' : xs.length - 1 ≤ p := (nI_leI hn1 hp').mp hb
    simp only [if_pos hb]
    unfold AL_fastRemove_OL_c34
    simp only [nmS, pL_sI, pK_sI, pC_sI, gd_ok hE', nI_clamp hn1, if_neg hpc2]
    refine ⟨_, _, rfl, ?_, fun j hj => ?_, fun i h1 h2 => ?_, a4, a5, a6, a7, a8, a9, a10, a11, a12, fun q hq => ?_⟩
    · rw [hl, gI_sQ, gI_sI, if_pos rfl]
    · rw [hl] at hj
      rw [pR_sQ, if_pos rfl, if_neg (by omega), xg_er, if_pos (by omega)]
      exact a2 j (by omega)
    · rw [gI_sQ, gI_sI, if_neg h2, gI_sI, if_neg h1]
      exact a3 i h1 h2
    · funext i
      rw [pR_sQ, if_neg hq]
      exact congrFun (a13 q hq) i
  · have hb' : p < xs.length - 1 := Nat.lt_of_not_le (fun z => hb (nI_le z (by omega)))
    have e2 : nI p + 1 = nI (p + 1) := nI_1 p
    have e3 : nI (xs.length - 1) - nI p = nI (xs.length - 1 - p) := pk_sub (by omega)
    have hall : allIn (sI σ 17 (gI σ 17 + 1)) (gE σ0 0) (p + 1) (xs.length - 1 - p) 2 = true := by
      unfold allIn
      apply List.all_eq_true.mpr
      intro i hi
      have hi2 := List.mem_range.mp hi
      obtain ⟨y, e, y1, y2⟩ := hf (p + 1 + i) (by omega)
      show (match pR σ (gE σ0 0) (p + 1 + i) with
        | none => true
        | some y => decide (y ∈ pL σ ∧ pK σ y = 2)) = true
      rw [a2 _ (by omega), e, a8, a9]
      exact decide_eq_true ⟨y1, y2⟩
    simp only [if_neg hb, e2, e3, nI_clamp hp', nI_clamp (show p + 1 < 2 ^ 31 by omega), nI_clamp (show xs.length - 1 - p < 2 ^ 31 by omega)]
    rw [if_neg (fun z => by
      rcases z with z | z | z | z | z | z
      · exact nI_pos (by omega) z
      · exact nI_pos hp' z
      · exact nI_pos (by omega) z
      · rw [a11] at z; omega
      · rw [a11] at z; omega
      · rw [hall] at z; exact Bool.noConfusion z)]
    unfold AL_fastRemove_OL_c34
    simp only [nmS, pL_sI, pK_sI, pC_sI, pL_sF, pK_sF, pC_sF, gd_ok hE', nI_clamp hn1, if_neg hpc2]
    refine ⟨_, _, rfl, ?_, fun i hi => ?_, fun i h1 h2 => ?_, a4, a5, a6, a7, a8, a9, a10, a11, a12, fun q hq => ?_⟩
    · rw [hl, gI_sQ, gI_sI, if_pos rfl]
    · rw [hl] at hi
      rw [pR_sQ, if_pos rfl, if_neg (by omega), pR_sI, pR_sF, if_pos rfl, xg_er]
      by_cases hjp : i < p
      · rw [if_pos hjp, pk_cpy_out (Or.inl hjp)]
        exact a2 i (by omega)
      · rw [if_neg hjp, pk_cpy_in (by omega) (by omega), ← a2 (i + 1) (by omega)]
        show pR σ (gE σ0 0) (p + 1 + (i - p)) = _
        rw [show p + 1 + (i - p) = i + 1 by omega]
    · rw [gI_sQ, gI_sI, if_neg h2, gI_sF, gI_sI, if_neg h1]
      exact a3 i h1 h2
    · funext i
      rw [pR_sQ, if_neg hq, pR_sI, pR_sF, if_neg hq]
      exact congrFun (a13 q hq) i
theorem core_subO0 {xs : List Nat} (hC : Core eE μ ν σ τ) (hmx : nO τ ≤ 12) (hx : Srt xs (nO τ)) (h : CSubO σ σ' xs) (h' : OSubO τ τ' xs) : Core eE μ ν σ' τ' := by
  obtain ⟨h1, h2, h3, h4, h5, h6, h7, h8⟩ := hC
  obtain ⟨a1, a2, a3, a4, a5, a6, a7, a8, a9, a10, a11, a12, a13⟩ := h
  obtain ⟨b1, b2, b3, b4, b5, b6⟩ := h'
  have hlen := hx.len
  have eN : nO τ' = xs.length := by
    unfold nO
    rw [b1, nI_clamp (by omega)]
  have eM : nD τ' = nD τ := by
    unfold nD
    rw [b3 _ (by decide)]
  have eR : gR σ' = gR σ := by
    funext a i
    unfold gR
    rw [a7]
  have eA : gA σ' = gA σ := by
    funext a i
    unfold gA
    rw [a5]
  refine ⟨?_, ?_, ?_, ?_, ?_, ?_, ?_, ?_⟩
  · obtain ⟨c0, c1, c2, c3, c4, c5, c6, c7, c8, c9, c10⟩ := h1
    unfold CS
    rw [a3 0 (by decide) (by decide), a3 1 (by decide) (by decide), a3 2 (by decide) (by decide), a3 3 (by decide) (by decide), a3 4 (by decide) (by decide), a3 5 (by decide) (by decide), a3 6 (by decide) (by decide), a3 7 (by decide) (by decide), a3 8 (by decide) (by decide), a3 20 (by decide) (by decide), b3 25 (by decide), b3 26 (by decide), b3 27 (by decide), b3 28 (by decide), b3 29 (by decide), b3 30 (by decide), b3 31 (by decide), b3 22 (by decide), b3 24 (by decide), b3 23 (by decide), a1, b1]
    exact ⟨c0, c1, c2, c3, c4, c5, c6, c7, c8, rfl, c10⟩
  · have := CA_congr (σ' := σ') h2 (by rw [eR]) a8 a9 a10
    unfold CA at this ⊢
    simp only [b5 8 _ (Or.inl (by decide)), b5 9 _ (Or.inl (by decide)), b5 10 _ (Or.inl (by decide)), b5 11 _ (Or.inl (by decide))]
    exact this
  · unfold CL
    simp only [eA, b5 12 _ (Or.inl (by decide)), b5 13 _ (Or.inl (by decide)), b5 14 _ (Or.inl (by decide))]
    exact h3
  · obtain ⟨k1, k2, k3⟩ := h4
    have eQ : ∀ i, i < xs.length → oq σ' i = oq σ (xg xs i) := fun i hi => by
      unfold oq
      rw [a12, a2 i hi]
    unfold CO
    rw [eN]
    refine ⟨?_, fun i hi => ?_, fun i i' hi hi' e => ?_⟩
    · rcases k1 with ⟨z1, z2⟩ | ⟨z1, z2, z3, z4, z5⟩
      · exact Or.inl ⟨by rw [a12]; exact z1, by omega⟩
      · refine Or.inr ⟨by rw [a12, a8]; exact z1, by rw [a12, a9]; exact z2, by rw [a12, a11]; omega, by rw [a12, a11]; omega, ?_⟩
        unfold allIn
        apply List.all_eq_true.mpr
        intro i hi
        have hi2 := List.mem_range.mp hi
        rw [a12, Nat.zero_add, a2 i hi2, (k2 _ (hx.2 i hi2)).1, a8, a9]
        exact decide_eq_true (k2 _ (hx.2 i hi2)).2.1
    · obtain ⟨e1, e2, f0, f1, f2, f3, f4, f5⟩ := k2 _ (hx.2 i hi)
      have ge : ∀ b, 15 ≤ b → b ≤ 20 → gA τ' b i = gA τ b (xg xs i) := fun b c d => b2 b i c d hi
      rw [eQ i hi, a12, a2 i hi, a8, a9, a10]
      exact ⟨e1, e2, f0.trans (ge 15 (by decide) (by decide)).symm, f1.trans (ge 16 (by decide) (by decide)).symm, f2.trans (ge 17 (by decide) (by decide)).symm, f3.trans (ge 19 (by decide) (by decide)).symm, f4.trans (ge 18 (by decide) (by decide)).symm, f5.trans (ge 20 (by decide) (by decide)).symm⟩
    · rw [eQ i hi, eQ i' hi'] at e
      exact hx.inj hi hi' (k3 _ _ (hx.2 i hi) (hx.2 i' hi') e)
  · have hgE : nD τ = 0 ∨ gE σ 1 ≠ gE σ 0 := by
      obtain ⟨k1, _⟩ := h5
      rcases k1 with ⟨z1, z2⟩ | ⟨z1, z2, z3, z4, z5⟩
      · exact Or.inl z2
      · refine Or.inr (fun z => ?_)
        have := h6.2 z.symm
        rw [← z] at this
        exact h6.1 (this ▸ z1) (this ▸ z2)
    rcases hgE with h0 | hne
    · obtain ⟨k1, k2, k3⟩ := h5
      unfold CD
      rw [eM, h0] at *
      refine ⟨?_, fun i hi => absurd hi (Nat.not_lt_zero _), fun i _ hi => absurd hi (Nat.not_lt_zero _)⟩
      rcases k1 with ⟨z1, z2⟩ | ⟨z1, z2, z3, z4, z5⟩
      · exact Or.inl ⟨by rw [a12]; exact z1, rfl⟩
      · exact Or.inr ⟨by rw [a12, a8]; exact z1, by rw [a12, a9]; exact z2, Nat.zero_le _, by rw [a12, a11]; exact z4, rfl⟩
    · have pe := a13 _ hne
      unfold CD LOk allIn dq at h5 ⊢
      rw [eM, a12, a8, a9, a10, a11, pe]
      simp only [b5 21 _ (Or.inr (by decide)), b5 22 _ (Or.inr (by decide)), b5 23 _ (Or.inr (by decide)), b5 24 _ (Or.inr (by decide)), b5 25 _ (Or.inr (by decide)), b5 26 _ (Or.inr (by decide))]
      exact h5
  · unfold CE
    rw [a8, a9, a12]
    exact h6
  · obtain ⟨q1, q2, q3, q4⟩ := h7
    refine ⟨fun i hi => (a3 i (by omega) (by omega)).trans (q1 i hi), fun i => ?_, fun a i ha => ?_, fun i => ?_⟩
    · rw [← q2 i]
      unfold gL
      rw [a4]
    · rw [← q3 a i ha, eA]
    · rw [← q4 i]
      unfold gV
      rw [a6]
  · obtain ⟨q1, q2, q3⟩ := h8
    refine ⟨fun i hi => (b3 i (by omega)).trans (q1 i hi), fun a i ha => (b5 a i (by omega)).trans (q2 a i ha), ?_⟩
    rw [b6]
    exact q3
theorem core_subO {xs : List Nat} (hC : Core eE μ ν σ τ) (hG : Good K L τ) (hx : Srt xs (nO τ)) (h : CSubO σ σ' xs) (h' : OSubO τ τ' xs) : Core eE μ ν σ' τ' := core_subO0 hC hG.2.2.2.2.1.2.1 hx h h'
theorem g_subO0 {xs : List Nat} (h1 : GS τ) (h2 : GA K τ) (h3 : GL K τ) (h4 : GQ τ) (h6 : GD L τ) (k2 : nO τ ≤ 12) (k3 : ∀ i, i < xs.length → (∃ d, 1 ≤ d ∧ d ≤ L ∧ gA τ 15 (xg xs i) = nI d) ∧ (∃ o, o < 6 ∧ gA τ 16 (xg xs i) = nI o) ∧ (∃ k, k < 13 ∧ gA τ 17 (xg xs i) = nI k) ∧ (∃ k, k < 13 ∧ gA τ 18 (xg xs i) = nI k) ∧ (∃ w, 1 ≤ w ∧ w ≤ 100000 ∧ gA τ 19 (xg xs i) = nI w) ∧ ∃ g, 1 ≤ g ∧ g ≤ 100000 ∧ gA τ 20 (xg xs i) = nI g) (k4 : ∀ i j, i < j → j < nO τ → (gA τ 15 i).toInt < (gA τ 15 j).toInt) (k5 : ∃ d, d ≤ L ∧ gI τ 22 = nI d ∧ ∀ j, j < nO τ → (gA τ 15 j).toInt ≤ d) (hx : Srt xs (nO τ)) (h' : OSubO τ τ' xs) : Good K L τ' := by
  obtain ⟨b1, b2, b3, b4, b5, b6⟩ := h'
  have hlen := hx.len
  have eN : nO τ' = xs.length := by
    unfold nO
    rw [b1, nI_clamp (by omega)]
  have eM : nD τ' = nD τ := by
    unfold nD
    rw [b3 _ (by decide)]
  have bb : ∀ b, b < 15 ∨ 20 < b → gA τ' b = gA τ b := fun b hb => by
    funext i
    exact b5 b i hb
  refine ⟨?_, ?_, ?_, ?_, ?_, ?_⟩
  · unfold GS
    rw [b3 25 (by decide), b3 27 (by decide), b3 28 (by decide), b3 29 (by decide)]
    exact h1
  · unfold GA
    rw [bb 8 (by decide), bb 9 (by decide), bb 11 (by decide)]
    exact h2
  · unfold GL
    rw [bb 12 (by decide), bb 13 (by decide)]
    exact h3
  · unfold GQ
    rw [bb 14 (by decide)]
    exact h4
  · refine ⟨by rw [eN]; exact b1, by omega, fun i hi => ?_, fun i i' hii hi' => ?_, ?_⟩
    · rw [eN] at hi
      have ge : ∀ b, 15 ≤ b → b ≤ 20 → gA τ' b i = gA τ b (xg xs i) := fun b c d => b2 b i c d hi
      rw [ge 15 (by decide) (by decide), ge 16 (by decide) (by decide), ge 17 (by decide) (by decide), ge 18 (by decide) (by decide), ge 19 (by decide) (by decide), ge 20 (by decide) (by decide)]
      exact k3 i hi
    · rw [eN] at hi'
      rw [b2 _ i (by decide) (by decide) (by omega), b2 _ i' (by decide) (by decide) hi']
      exact k4 _ _ (hx.1 i i' hii hi') (hx.2 i' hi')
    · obtain ⟨d, d1, d2, d3⟩ := k5
      refine ⟨d, d1, (b3 _ (by decide)).trans d2, fun i hi => ?_⟩
      rw [eN] at hi
      rw [b2 _ i (by decide) (by decide) hi]
      exact d3 _ (hx.2 i hi)
  · unfold GD at h6 ⊢
    rw [eM, b3 23 (by decide), b3 24 (by decide), bb 21 (by decide), bb 22 (by decide), bb 23 (by decide), bb 24 (by decide)]
    exact h6
theorem g_subO {xs : List Nat} (hG : Good K L τ) (hx : Srt xs (nO τ)) (h' : OSubO τ τ' xs) : Good K L τ' := by
  obtain ⟨h1, h2, h3, h4, ⟨k1, k2, k3, k4, k5⟩, h6⟩ := hG
  exact g_subO0 h1 h2 h3 h4 h6 k2 (fun i hi => k3 _ (hx.2 i hi)) k4 k5 hx h'
/-- the class's list in σ is that of σ0 at the places xs -/
def CSubD (σ0 σ : ST) (xs : List Nat) : Prop := gI σ 20 = nI xs.length ∧ (∀ j, j < xs.length → pR σ (gE σ0 1) j = pR σ0 (gE σ0 1) (xg xs j)) ∧ (∀ i, i ≠ 19 → i ≠ 20 → gI σ i = gI σ0 i) ∧ σ.2.1 = σ0.2.1 ∧ σ.2.2.1 = σ0.2.2.1 ∧ σ.2.2.2.1 = σ0.2.2.2.1 ∧ σ.2.2.2.2.1 = σ0.2.2.2.2.1 ∧ pL σ = pL σ0 ∧ pK σ = pK σ0 ∧ pP σ = pP σ0 ∧ pC σ = pC σ0 ∧ gE σ = gE σ0 ∧ ∀ q, q ≠ gE σ0 1 → pR σ q = pR σ0 q
def OSubD (τ0 τ : ST) (xs : List Nat) : Prop := gI τ 23 = nI xs.length ∧ (∀ b j, 21 ≤ b → b ≤ 26 → j < xs.length → gA τ b j = gA τ0 b (xg xs j)) ∧ (∀ i, i ≠ 23 → gI τ i = gI τ0 i) ∧ τ.2.1 = τ0.2.1 ∧ (∀ b i, b < 21 ∨ 26 < b → gA τ b i = gA τ0 b i) ∧ τ.2.2.2 = τ0.2.2.2
theorem CSubD.start (hC : Core eE μ ν σ τ) (hG : Good K L τ) : CSubD σ σ (List.range (nD τ)) := by
  have g1 : gI τ 23 = nI (nD τ) := hG.2.2.2.2.2.1
  refine ⟨?_, fun j hj => ?_, fun _ _ _ => rfl, rfl, rfl, rfl, rfl, rfl, rfl, rfl, rfl, rfl, fun _ _ => rfl⟩
  · rw [List.length_range, ← g1]
    exact hC.1.2.2.2.2.2.2.2.2.2.2
  · rw [List.length_range] at hj
    rw [xg_range hj]
theorem rmD {σ0 : ST} {xs : List Nat} {p : Nat} (h : CSubD σ0 σ xs) (hp : p < xs.length) (h12 : xs.length ≤ 12) (hE : gE σ0 1 ∈ pL σ0 ∧ pK σ0 (gE σ0 1) = 0) (hc : xs.length ≤ pC σ0 (gE σ0 1)) (hf : ∀ j, j < xs.length → ∃ y, pR σ0 (gE σ0 1) (xg xs j) = some y ∧ y ∈ pL σ0 ∧ pK σ0 y = 3) : ∃ (y : Nat) (σ1 : ST), AL_remove_DL (nI p) σ = some (y, σ1) ∧ CSubD σ0 σ1 (xs.eraseIdx p) := by
  obtain ⟨a1, a2, a3, a4, a5, a6, a7, a8, a9, a10, a11, a12, a13⟩ := h
  have hl : (xs.eraseIdx p).length = xs.length - 1 := List.length_eraseIdx_of_lt hp
  have hp' : p < 2 ^ 31 := by omega
  obtain ⟨y, hy, _⟩ := hf p hp
  have hrd : pR σ (gE σ0 1) p = some y := (a2 p hp).trans hy
  have eE0 : gE σ 1 = gE σ0 1 := by rw [a12]
  have hE' : gE σ0 1 ∈ pL σ ∧ pK σ (gE σ0 1) = 0 := by rw [a8, a9]; exact hE
  have hpc : ¬ (nI p < 0 ∨ pC σ (gE σ0 1) ≤ p) := fun z => z.elim (nI_pos hp') (by rw [a11]; omega)
  unfold AL_remove_DL OB_checkIndex PC_checkIndex
  simp only [a1, bd1, if_neg (nI_pos hp'), if_pos (nI_lt hp (by omega)), eE0, gd_ok hE', nI_clamp hp', if_neg hpc, hrd]
  unfold AL_fastRemove_DL
  have e1 : nI xs.length - 1 = nI (xs.length - 1) := by rw [show (1 : Int32) = nI 1 by decide, pk_sub (by omega)]
  have hne : ¬ ((20 : Nat) = 19) := by decide
  simp only [nmS, nmI, gI_sI, if_neg hne, a1, e1, pL_sI, pK_sI, pC_sI, pR_sI, gd_ok hE']
  have hn1 : xs.length - 1 < 2 ^ 31 := by omega
  have hpc2 : ¬ (nI (xs.length - 1) < 0 ∨ pC σ (gE σ0 1) ≤ xs.length - 1) := fun z => z.elim (nI_pos hn1) (by rw [a11]; omega)
  by_cases hb : nI (xs.length - 1) ≤ nI p
  · have hb' : xs.length - 1 ≤ p := (nI_leI hn1 hp').mp hb
    simp only [if_pos hb]
    unfold AL_fastRemove_DL_c34
    simp only [nmS, pL_sI, pK_sI, pC_sI, gd_ok hE', nI_clamp hn1, if_neg hpc2]
    refine ⟨_, _, rfl, ?_, fun j hj => ?_, fun i h1 h2 => ?_, a4, a5, a6, a7, a8, a9, a10, a11, a12, fun q hq => ?_⟩
    · rw [hl, gI_sQ, gI_sI, if_pos rfl]
    · rw [hl] at hj
      rw [pR_sQ, if_pos rfl, if_neg (by omega), xg_er, if_pos (by omega)]
      exact a2 j (by omega)
    · rw [gI_sQ, gI_sI, if_neg h2, gI_sI, if_neg h1]
      exact a3 i h1 h2
    · funext i
      rw [pR_sQ, if_neg hq]
      exact congrFun (a13 q hq) i
  · have hb' : p < xs.length - 1 := Nat.lt_of_not_le (fun z => hb (nI_le z (by omega)))
    have e2 : nI p + 1 = nI (p + 1) := nI_1 p
    have e3 : nI (xs.length - 1) - nI p = nI (xs.length - 1 - p) := pk_sub (by omega)
    have hall : allIn (sI σ 19 (gI σ 19 + 1)) (gE σ0 1) (p + 1) (xs.length - 1 - p) 3 = true := by
      unfold allIn
      apply List.all_eq_true.mpr
      intro i hi
      have hi2 := List.mem_range.mp hi
      obtain ⟨y, e, y1, y2⟩ := hf (p + 1 + i) (by omega)
      show (match pR σ (gE σ0 1) (p + 1 + i) with
        | none => true
        | some y => decide (y ∈ pL σ ∧ pK σ y = 3)) = true
      rw [a2 _ (by omega), e, a8, a9]
      exact decide_eq_true ⟨y1, y2⟩
    simp only [if_neg hb, e2, e3, nI_clamp hp', nI_clamp (show p + 1 < 2 ^ 31 by omega), nI_clamp (show xs.length - 1 - p < 2 ^ 31 by omega)]
    rw [if_neg (fun z => by
      rcases z with z | z | z | z | z | z
      · exact nI_pos (by omega) z
      · exact nI_pos hp' z
      · exact nI_pos (by omega) z
      · rw [a11] at z; omega
      · rw [a11] at z; omega
      · rw [hall] at z; exact Bool.noConfusion z)]
    unfold AL_fastRemove_DL_c34
    simp only [nmS, pL_sI, pK_sI, pC_sI, pL_sF, pK_sF, pC_sF, gd_ok hE', nI_clamp hn1, if_neg hpc2]
    refine ⟨_, _, rfl, ?_, fun i hi => ?_, fun i h1 h2 => ?_, a4, a5, a6, a7, a8, a9, a10, a11, a12, fun q hq => ?_⟩
    · rw [hl, gI_sQ, gI_sI, if_pos rfl]
    · rw [hl] at hi
      rw [pR_sQ, if_pos rfl, if_neg (by omega), pR_sI, pR_sF, if_pos rfl, xg_er]
      by_cases hjp : i < p
      · rw [if_pos hjp, pk_cpy_out (Or.inl hjp)]
        exact a2 i (by omega)
      · rw [if_neg hjp, pk_cpy_in (by omega) (by omega), ← a2 (i + 1) (by omega)]
        show pR σ (gE σ0 1) (p + 1 + (i - p)) = _
        rw [show p + 1 + (i - p) = i + 1 by omega]
    · rw [gI_sQ, gI_sI, if_neg h2, gI_sF, gI_sI, if_neg h1]
      exact a3 i h1 h2
    · funext i
      rw [pR_sQ, if_neg hq, pR_sI, pR_sF, if_neg hq]
      exact congrFun (a13 q hq) i
theorem core_subD {xs : List Nat} (hC : Core eE μ ν σ τ) (hG : Good K L τ) (hx : Srt xs (nD τ)) (h : CSubD σ σ' xs) (h' : OSubD τ τ' xs) : Core eE μ ν σ' τ' := by
  obtain ⟨h1, h2, h3, h4, h5, h6, h7, h8⟩ := hC
  obtain ⟨a1, a2, a3, a4, a5, a6, a7, a8, a9, a10, a11, a12, a13⟩ := h
  obtain ⟨b1, b2, b3, b4, b5, b6⟩ := h'
  have hlen := hx.len
  have hmx : nD τ ≤ 6 := hG.2.2.2.2.2.2.1
  have eN : nD τ' = xs.length := by
    unfold nD
    rw [b1, nI_clamp (by omega)]
  have eM : nO τ' = nO τ := by
    unfold nO
    rw [b3 _ (by decide)]
  have eR : gR σ' = gR σ := by
    funext a i
    unfold gR
    rw [a7]
  have eA : gA σ' = gA σ := by
    funext a i
    unfold gA
    rw [a5]
  refine ⟨?_, ?_, ?_, ?_, ?_, ?_, ?_, ?_⟩
  · obtain ⟨c0, c1, c2, c3, c4, c5, c6, c7, c8, c9, c10⟩ := h1
    unfold CS
    rw [a3 0 (by decide) (by decide), a3 1 (by decide) (by decide), a3 2 (by decide) (by decide), a3 3 (by decide) (by decide), a3 4 (by decide) (by decide), a3 5 (by decide) (by decide), a3 6 (by decide) (by decide), a3 7 (by decide) (by decide), a3 8 (by decide) (by decide), a3 18 (by decide) (by decide), b3 25 (by decide), b3 26 (by decide), b3 27 (by decide), b3 28 (by decide), b3 29 (by decide), b3 30 (by decide), b3 31 (by decide), b3 22 (by decide), b3 24 (by decide), b3 21 (by decide), a1, b1]
    exact ⟨c0, c1, c2, c3, c4, c5, c6, c7, c8, c9, rfl⟩
  · have := CA_congr (σ' := σ') h2 (by rw [eR]) a8 a9 a10
    unfold CA at this ⊢
    simp only [b5 8 _ (Or.inl (by decide)), b5 9 _ (Or.inl (by decide)), b5 10 _ (Or.inl (by decide)), b5 11 _ (Or.inl (by decide))]
    exact this
  · unfold CL
    simp only [eA, b5 12 _ (Or.inl (by decide)), b5 13 _ (Or.inl (by decide)), b5 14 _ (Or.inl (by decide))]
    exact h3
  · have hgE : nO τ = 0 ∨ gE σ 0 ≠ gE σ 1 := by
      obtain ⟨k1, _⟩ := h4
      rcases k1 with ⟨z1, z2⟩ | ⟨z1, z2, z3, z4, z5⟩
      · exact Or.inl z2
      · refine Or.inr (fun z => ?_)
        have := h6.2 z
        exact h6.1 (this ▸ z1) (this ▸ z2)
    rcases hgE with h0 | hne
    · obtain ⟨k1, k2, k3⟩ := h4
      unfold CO
      rw [eM, h0] at *
      refine ⟨?_, fun i hi => absurd hi (Nat.not_lt_zero _), fun i _ hi => absurd hi (Nat.not_lt_zero _)⟩
      rcases k1 with ⟨z1, z2⟩ | ⟨z1, z2, z3, z4, z5⟩
      · exact Or.inl ⟨by rw [a12]; exact z1, rfl⟩
      · exact Or.inr ⟨by rw [a12, a8]; exact z1, by rw [a12, a9]; exact z2, Nat.zero_le _, by rw [a12, a11]; exact z4, rfl⟩
    · have pe := a13 _ hne
      unfold CO LOk allIn oq at h4 ⊢
      rw [eM, a12, a8, a9, a10, a11, pe]
      simp only [b5 15 _ (Or.inl (by decide)), b5 16 _ (Or.inl (by decide)), b5 17 _ (Or.inl (by decide)), b5 18 _ (Or.inl (by decide)), b5 19 _ (Or.inl (by decide)), b5 20 _ (Or.inl (by decide))]
      exact h4
  · obtain ⟨k1, k2, k3⟩ := h5
    have eQ : ∀ i, i < xs.length → dq σ' i = dq σ (xg xs i) := fun i hi => by
      unfold dq
      rw [a12, a2 i hi]
    unfold CD
    rw [eN]
    refine ⟨?_, fun i hi => ?_, fun i i' hi hi' e => ?_⟩
    · rcases k1 with ⟨z1, z2⟩ | ⟨z1, z2, z3, z4, z5⟩
      · exact Or.inl ⟨by rw [a12]; exact z1, by omega⟩
      · refine Or.inr ⟨by rw [a12, a8]; exact z1, by rw [a12, a9]; exact z2, by rw [a12, a11]; omega, by rw [a12, a11]; omega, ?_⟩
        unfold allIn
        apply List.all_eq_true.mpr
        intro i hi
        have hi2 := List.mem_range.mp hi
        rw [a12, Nat.zero_add, a2 i hi2, (k2 _ (hx.2 i hi2)).1, a8, a9]
        exact decide_eq_true (k2 _ (hx.2 i hi2)).2.1
    · obtain ⟨e1, e2, f0, f1, f2, f3, f4, f5⟩ := k2 _ (hx.2 i hi)
      have ge : ∀ b, 21 ≤ b → b ≤ 26 → gA τ' b i = gA τ b (xg xs i) := fun b c d => b2 b i c d hi
      rw [eQ i hi, a12, a2 i hi, a8, a9, a10]
      exact ⟨e1, e2, f0.trans (ge 21 (by decide) (by decide)).symm, f1.trans (ge 22 (by decide) (by decide)).symm, f2.trans (ge 23 (by decide) (by decide)).symm, f3.trans (ge 24 (by decide) (by decide)).symm, f4.trans (ge 25 (by decide) (by decide)).symm, f5.trans (ge 26 (by decide) (by decide)).symm⟩
    · rw [eQ i hi, eQ i' hi'] at e
      exact hx.inj hi hi' (k3 _ _ (hx.2 i hi) (hx.2 i' hi') e)
  · unfold CE
    rw [a8, a9, a12]
    exact h6
  · obtain ⟨q1, q2, q3, q4⟩ := h7
    refine ⟨fun i hi => (a3 i (by omega) (by omega)).trans (q1 i hi), fun i => ?_, fun a i ha => ?_, fun i => ?_⟩
    · rw [← q2 i]
      unfold gL
      rw [a4]
    · rw [← q3 a i ha, eA]
    · rw [← q4 i]
      unfold gV
      rw [a6]
  · obtain ⟨q1, q2, q3⟩ := h8
    refine ⟨fun i hi => (b3 i (by omega)).trans (q1 i hi), fun a i ha => (b5 a i (by omega)).trans (q2 a i ha), ?_⟩
    rw [b6]
    exact q3
theorem g_subD {xs : List Nat} (hG : Good K L τ) (hx : Srt xs (nD τ)) (h' : OSubD τ τ' xs) : Good K L τ' := by
  obtain ⟨h1, h2, h3, h4, h5, h6⟩ := hG
  obtain ⟨b1, b2, b3, b4, b5, b6⟩ := h'
  have hlen := hx.len
  obtain ⟨k1, k2, k3, k4, k5⟩ := h6
  have eN : nD τ' = xs.length := by
    unfold nD
    rw [b1, nI_clamp (by omega)]
  have eM : nO τ' = nO τ := by
    unfold nO
    rw [b3 _ (by decide)]
  have bb : ∀ b, b < 21 ∨ 26 < b → gA τ' b = gA τ b := fun b hb => by
    funext i
    exact b5 b i hb
  refine ⟨?_, ?_, ?_, ?_, ?_, ?_⟩
  · unfold GS
    rw [b3 25 (by decide), b3 27 (by decide), b3 28 (by decide), b3 29 (by decide)]
    exact h1
  · unfold GA
    rw [bb 8 (by decide), bb 9 (by decide), bb 11 (by decide)]
    exact h2
  · unfold GL
    rw [bb 12 (by decide), bb 13 (by decide)]
    exact h3
  · unfold GQ
    rw [bb 14 (by decide)]
    exact h4
  · unfold GO at h5 ⊢
    rw [eM, b3 21 (by decide), b3 22 (by decide), bb 15 (by decide), bb 16 (by decide), bb 17 (by decide), bb 18 (by decide), bb 19 (by decide), bb 20 (by decide)]
    exact h5
  · refine ⟨by rw [eN]; exact b1, by omega, fun i hi => ?_, fun i i' hii hi' => ?_, ?_⟩
    · rw [eN] at hi
      have ge : ∀ b, 21 ≤ b → b ≤ 26 → gA τ' b i = gA τ b (xg xs i) := fun b c d => b2 b i c d hi
      rw [ge 21 (by decide) (by decide), ge 22 (by decide) (by decide), ge 23 (by decide) (by decide), ge 24 (by decide) (by decide)]
      exact k3 _ (hx.2 i hi)
    · rw [eN] at hi'
      rw [b2 _ i (by decide) (by decide) (by omega), b2 _ i' (by decide) (by decide) hi']
      exact k4 _ _ (hx.1 i i' hii hi') (hx.2 i' hi')
    · obtain ⟨d, d1, d2, d3⟩ := k5
      refine ⟨d, d1, (b3 _ (by decide)).trans d2, fun i hi => ?_⟩
      rw [eN] at hi
      rw [b2 _ i (by decide) (by decide) hi]
      exact d3 _ (hx.2 i hi)
end LST
