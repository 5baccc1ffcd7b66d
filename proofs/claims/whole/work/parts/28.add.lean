section ADD
variable {eE : Nat × Nat} {μ ν σ σ' τ τ' : ST} {K L : Nat}
def AFO (z : Nat) (x1 x2 x3 x4 x5 : Int32) (n : Nat) (σ σ' : ST) (e E : Nat) : Prop := e ∉ pL σ ∧ ((E = gE σ 0 ∧ E ∈ pL σ ∧ pK σ E = 0 ∧ pC σ' E = pC σ E) ∨ (E ∉ pL σ ∧ E ≠ e ∧ E ≠ z ∧ (pC σ' E = 10 ∨ pC σ' E = 15))) ∧ (∀ q, q ∈ pL σ' ↔ q ∈ pL σ ∨ q = e ∨ q = E) ∧ (pK σ' e = 2 ∧ pP σ' e 0 = gI σ 7 + 1 ∧ pP σ' e 1 = x1 ∧ pP σ' e 2 = x2 ∧ pP σ' e 3 = x3 ∧ pP σ' e 4 = x4 ∧ pP σ' e 5 = x5) ∧ (∀ q, q ≠ e → q ≠ E → pK σ' q = pK σ q ∧ pP σ' q = pP σ q ∧ pC σ' q = pC σ q ∧ pR σ' q = pR σ q) ∧ (pK σ' E = 0 ∧ n < pC σ' E) ∧ (pR σ' E n = some e ∧ ∀ i, i < n → pR σ' E i = pR σ (gE σ 0) i) ∧ (gE σ' 0 = E ∧ gE σ' 1 = gE σ 1) ∧ (gI σ' 7 = gI σ 7 + 1 ∧ gI σ' 18 = nI (n + 1) ∧ ∀ i, i ≠ 7 → i ≠ 18 → i ≠ 17 → gI σ' i = gI σ i) ∧ σ'.2.1 = σ.2.1 ∧ σ'.2.2.1 = σ.2.2.1 ∧ σ'.2.2.2.1 = σ.2.2.2.1 ∧ σ'.2.2.2.2.1 = σ.2.2.2.2.1
theorem afO {z n : Nat} {x1 x2 x3 x4 x5 : Int32} (hj : 0 < n → gE σ 0 ∈ pL σ) (h : AddOfferR z x1 x2 x3 x4 x5 n σ σ') : ∃ e E, AFO z x1 x2 x3 x4 x5 n σ σ' e E := by
  obtain ⟨e, τ0, he, rfl, hA⟩ := h
  obtain ⟨s1, s2, s3, s4⟩ := sN_eq (σ := σ) (q := e) (kd := 2) (c := 0) (p := fun _ => 0) (f := fun _ => none)
  have mK : ∀ q, q ≠ e → pK (sI (mkOffer x1 x2 x3 x4 x5 e (sN σ e 2 (fun _ => 0) 0 (fun _ => none))) 17 (gI (mkOffer x1 x2 x3 x4 x5 e (sN σ e 2 (fun _ => 0) 0 (fun _ => none))) 17 + 1)) q = pK σ q ∧ pP (sI (mkOffer x1 x2 x3 x4 x5 e (sN σ e 2 (fun _ => 0) 0 (fun _ => none))) 17 (gI (mkOffer x1 x2 x3 x4 x5 e (sN σ e 2 (fun _ => 0) 0 (fun _ => none))) 17 + 1)) q = pP σ q ∧ pC (sI (mkOffer x1 x2 x3 x4 x5 e (sN σ e 2 (fun _ => 0) 0 (fun _ => none))) 17 (gI (mkOffer x1 x2 x3 x4 x5 e (sN σ e 2 (fun _ => 0) 0 (fun _ => none))) 17 + 1)) q = pC σ q ∧ pR (sI (mkOffer x1 x2 x3 x4 x5 e (sN σ e 2 (fun _ => 0) 0 (fun _ => none))) 17 (gI (mkOffer x1 x2 x3 x4 x5 e (sN σ e 2 (fun _ => 0) 0 (fun _ => none))) 17 + 1)) q = pR σ q := fun q hq => by
    obtain ⟨t1, t2, t3, t4⟩ := sN_ne (σ := σ) (kd := 2) (c := 0) (p := fun _ => 0) (f := fun _ => none) hq
    refine ⟨t1, ?_, t3, t4⟩
    funext i
    unfold mkOffer
    simp only [pP_sP, pP_sI, if_neg hq]
    exact congrFun t2 i
  have mP : pP (mkOffer x1 x2 x3 x4 x5 e (sN σ e 2 (fun _ => 0) 0 (fun _ => none))) e 0 = gI σ 7 + 1 ∧ pP (mkOffer x1 x2 x3 x4 x5 e (sN σ e 2 (fun _ => 0) 0 (fun _ => none))) e 1 = x1 ∧ pP (mkOffer x1 x2 x3 x4 x5 e (sN σ e 2 (fun _ => 0) 0 (fun _ => none))) e 2 = x2 ∧ pP (mkOffer x1 x2 x3 x4 x5 e (sN σ e 2 (fun _ => 0) 0 (fun _ => none))) e 3 = x3 ∧ pP (mkOffer x1 x2 x3 x4 x5 e (sN σ e 2 (fun _ => 0) 0 (fun _ => none))) e 4 = x4 ∧ pP (mkOffer x1 x2 x3 x4 x5 e (sN σ e 2 (fun _ => 0) 0 (fun _ => none))) e 5 = x5 := by
    unfold mkOffer
    simp only [pP_sP, reduceIte, Nat.reduceEqDiff]
    exact ⟨rfl, trivial, trivial, trivial, trivial, trivial⟩
  have mI : ∀ i, i ≠ 7 → i ≠ 17 → gI (sI (mkOffer x1 x2 x3 x4 x5 e (sN σ e 2 (fun _ => 0) 0 (fun _ => none))) 17 (gI (mkOffer x1 x2 x3 x4 x5 e (sN σ e 2 (fun _ => 0) 0 (fun _ => none))) 17 + 1)) i = gI σ i := fun i h1 h2 => by
    unfold mkOffer
    rw [gI_sI, if_neg h2]
    simp only [gI_sP, gI_sI, if_neg h1]
    rfl
  have mL : gI (sI (mkOffer x1 x2 x3 x4 x5 e (sN σ e 2 (fun _ => 0) 0 (fun _ => none))) 17 (gI (mkOffer x1 x2 x3 x4 x5 e (sN σ e 2 (fun _ => 0) 0 (fun _ => none))) 17 + 1)) 7 = gI σ 7 + 1 := rfl
  have mE : pK (sI (mkOffer x1 x2 x3 x4 x5 e (sN σ e 2 (fun _ => 0) 0 (fun _ => none))) 17 (gI (mkOffer x1 x2 x3 x4 x5 e (sN σ e 2 (fun _ => 0) 0 (fun _ => none))) 17 + 1)) e = 2 := s1
  have mL2 : pL (sI (mkOffer x1 x2 x3 x4 x5 e (sN σ e 2 (fun _ => 0) 0 (fun _ => none))) 17 (gI (mkOffer x1 x2 x3 x4 x5 e (sN σ e 2 (fun _ => 0) 0 (fun _ => none))) 17 + 1)) = pL σ ++ [e] := rfl
  have mG : gE (sI (mkOffer x1 x2 x3 x4 x5 e (sN σ e 2 (fun _ => 0) 0 (fun _ => none))) 17 (gI (mkOffer x1 x2 x3 x4 x5 e (sN σ e 2 (fun _ => 0) 0 (fun _ => none))) 17 + 1)) = gE σ := rfl
  have mT : (sI (mkOffer x1 x2 x3 x4 x5 e (sN σ e 2 (fun _ => 0) 0 (fun _ => none))) 17 (gI (mkOffer x1 x2 x3 x4 x5 e (sN σ e 2 (fun _ => 0) 0 (fun _ => none))) 17 + 1)).2.1 = σ.2.1 ∧ (sI (mkOffer x1 x2 x3 x4 x5 e (sN σ e 2 (fun _ => 0) 0 (fun _ => none))) 17 (gI (mkOffer x1 x2 x3 x4 x5 e (sN σ e 2 (fun _ => 0) 0 (fun _ => none))) 17 + 1)).2.2.1 = σ.2.2.1 ∧ (sI (mkOffer x1 x2 x3 x4 x5 e (sN σ e 2 (fun _ => 0) 0 (fun _ => none))) 17 (gI (mkOffer x1 x2 x3 x4 x5 e (sN σ e 2 (fun _ => 0) 0 (fun _ => none))) 17 + 1)).2.2.2.1 = σ.2.2.2.1 ∧ (sI (mkOffer x1 x2 x3 x4 x5 e (sN σ e 2 (fun _ => 0) 0 (fun _ => none))) 17 (gI (mkOffer x1 x2 x3 x4 x5 e (sN σ e 2 (fun _ => 0) 0 (fun _ => none))) 17 + 1)).2.2.2.2.1 = σ.2.2.2.2.1 := ⟨rfl, rfl, rfl, rfl⟩
  have mP' : pP (sI (mkOffer x1 x2 x3 x4 x5 e (sN σ e 2 (fun _ => 0) 0 (fun _ => none))) 17 (gI (mkOffer x1 x2 x3 x4 x5 e (sN σ e 2 (fun _ => 0) 0 (fun _ => none))) 17 + 1)) e = pP (mkOffer x1 x2 x3 x4 x5 e (sN σ e 2 (fun _ => 0) 0 (fun _ => none))) e := rfl
  generalize (sI (mkOffer x1 x2 x3 x4 x5 e (sN σ e 2 (fun _ => 0) 0 (fun _ => none))) 17 (gI (mkOffer x1 x2 x3 x4 x5 e (sN σ e 2 (fun _ => 0) 0 (fun _ => none))) 17 + 1)) = σm at *
  rw [← mP'] at mP
  rcases hA with ⟨a1, a2, a3, rfl⟩ | ⟨E, τ1, ⟨c, f, b1, b2, b3, b4, b5, rfl⟩, rfl⟩
  · rw [mG] at a1 a2 a3
    have hne : gE σ 0 ≠ e := fun w => by rw [w, mE] at a2; exact absurd a2 (by decide)
    obtain ⟨t1, t2, t3, t4⟩ := mK _ hne
    rw [mL2] at a1
    have a1' : gE σ 0 ∈ pL σ := (List.mem_append.mp a1).elim id (fun w => absurd (List.mem_singleton.mp w) hne)
    rw [mG]
    refine ⟨e, gE σ 0, he, Or.inl ⟨rfl, a1', by rw [← t1]; exact a2, t3⟩, fun q => ?_, ⟨mE, mP⟩, fun q h1 h2 => ?_, ⟨a2, a3⟩, ⟨?_, fun i hi => ?_⟩, ⟨congrFun mG _, congrFun mG _⟩, ⟨?_, ?_, fun i h1 h2 h3 => ?_⟩, mT⟩
    · rw [pL_sI, pL_sQ, mL2, List.mem_append, List.mem_singleton]
      constructor
      · intro w
        rcases w with w | w
        · exact Or.inl w
        · exact Or.inr (Or.inl w)
      · intro w
        rcases w with w | w | w
        · exact Or.inl w
        · exact Or.inr w
        · exact Or.inl (w ▸ a1')
    · obtain ⟨u1, u2, u3, u4⟩ := mK q h1
      refine ⟨u1, u2, u3, ?_⟩
      funext i
      rw [pR_sI, pR_sQ, if_neg h2, u4]
    · rw [pR_sI, pR_sQ, if_pos rfl, if_pos rfl]
    · rw [pR_sI, pR_sQ, if_pos rfl, if_neg (by omega), t4]
    · rw [gI_sI, if_neg (by decide), gI_sQ, mL]
    · rw [gI_sI, if_pos rfl]
    · rw [gI_sI, if_neg h2, gI_sQ, mI i h1 h3]
  · rw [mL2] at b1
    have hE1 : E ∉ pL σ := fun w => b1 (List.mem_append_left _ w)
    have hE2 : E ≠ e := fun w => b1 (List.mem_append_right _ (by rw [w]; exact List.mem_singleton.mpr rfl))
    obtain ⟨r1, r2, r3, r4⟩ := sN_eq (σ := σm) (q := E) (kd := 0) (c := c) (p := fun _ => 0) (f := f)
    have rn := fun q (hq : q ≠ E) => sN_ne (σ := σm) (kd := 0) (c := c) (p := fun _ => 0) (f := f) hq
    rw [mG] at b5
    refine ⟨e, E, he, Or.inr ⟨hE1, hE2, b2, ?_⟩, fun q => ?_, ?_, fun q h1 h2 => ?_, ⟨r1, ?_⟩, ⟨?_, fun i hi => ?_⟩, ⟨?_, ?_⟩, ⟨?_, ?_, fun i h1 h2 h3 => ?_⟩, mT⟩
    · rw [pC_sI, pC_sQ, pC_sE, r3]
      exact b4
    · rw [pL_sI, pL_sQ, pL_sE, sN_pL, mL2, List.mem_append, List.mem_append, List.mem_singleton, List.mem_singleton]
      constructor
      · intro w
        rcases w with (w | w) | w
        · exact Or.inl w
        · exact Or.inr (Or.inl w)
        · exact Or.inr (Or.inr w)
      · intro w
        rcases w with w | w | w
        · exact Or.inl (Or.inl w)
        · exact Or.inl (Or.inr w)
        · exact Or.inr w
    · obtain ⟨v1, v2, v3, v4⟩ := rn e (Ne.symm hE2)
      rw [pK_sI, pK_sQ, pK_sE, v1]
      refine ⟨mE, ?_⟩
      simp only [pP_sI, pP_sQ, pP_sE, v2]
      exact mP
    · obtain ⟨u1, u2, u3, u4⟩ := mK q h1
      obtain ⟨v1, v2, v3, v4⟩ := rn q h2
      refine ⟨v1.trans u1, v2.trans u2, v3.trans u3, ?_⟩
      funext i
      rw [pR_sI, pR_sQ, if_neg h2, pR_sE, v4, u4]
    · rw [pC_sI, pC_sQ, pC_sE, r3]
      exact b3
    · rw [pR_sI, pR_sQ, if_pos rfl, if_pos rfl]
    · rw [pR_sI, pR_sQ, if_pos rfl, if_neg (by omega), pR_sE, r4, b5 i hi]
      have hgj : pR σm (gE σ 0) i = pR σ (gE σ 0) i := by rw [(mK (gE σ 0) (fun w => he (w ▸ hj (by omega)))).2.2.2]
      exact hgj
    · rw [gE_sI, gE_sQ, gE_sE, if_pos rfl]
    · rw [gE_sI, gE_sQ, gE_sE, if_neg (by decide)]
      exact congrFun mG _
    · rw [gI_sI, if_neg (by decide), gI_sQ, gI_sE]
      exact mL
    · rw [gI_sI, if_pos rfl]
    · rw [gI_sI, if_neg h2, gI_sQ, gI_sE]
      exact mI i h1 h3
/-- the reference's new entry -/
def plcO (τ : ST) (x1 x2 x3 x4 x5 : Int32) (τ' : ST) : Prop := gI τ' 22 = gI τ 22 + 1 ∧ gI τ' 21 = nI (nO τ + 1) ∧ (∀ i, i ≠ 22 → i ≠ 21 → gI τ' i = gI τ i) ∧ (∀ b i, (b < 15 ∨ 20 < b) ∨ i ≠ nO τ → gA τ' b i = gA τ b i) ∧ (gA τ' 15 (nO τ) = gI τ 22 + 1 ∧ gA τ' 16 (nO τ) = x1 ∧ gA τ' 17 (nO τ) = x2 ∧ gA τ' 19 (nO τ) = x3 ∧ gA τ' 18 (nO τ) = x4 ∧ gA τ' 20 (nO τ) = x5) ∧ τ'.2.1 = τ.2.1 ∧ τ'.2.2.2 = τ.2.2.2
theorem core_addO {x1 x2 x3 x4 x5 : Int32} (hC : Core eE μ ν σ τ) (hG : Good K L τ) (hn : nO τ < 12) (h : AddOfferR eE.1 x1 x2 x3 x4 x5 (nO τ) σ σ') (h' : plcO τ x1 x2 x3 x4 x5 τ') : Core eE μ ν σ' τ' := by
  obtain ⟨h1, h2, h3, h4, h5, h6, h7, h8⟩ := hC
  have hjj : 0 < nO τ → gE σ 0 ∈ pL σ := fun w => by
    rcases h4.1 with ⟨_, z⟩ | ⟨z, _⟩
    · omega
    · exact z
  obtain ⟨e, E, F1, F2, F3, ⟨F4, y0, y1, y2, y3, y4, y5⟩, F5, ⟨F6, F6'⟩, ⟨F7, F7'⟩, ⟨F8, F8'⟩, ⟨F9, F9', F9''⟩, T1, T2, T3, T4⟩ := afO hjj h
  obtain ⟨b1, b2, b3, b4, ⟨p0, p1, p2, p3, p4, p5⟩, b6, b7⟩ := h'
  have eN : nO τ' = nO τ + 1 := by
    show (gI τ' 21).toNatClampNeg = nO τ + 1
    rw [b2, nI_clamp (by omega)]
  have eM : nD τ' = nD τ := by
    unfold nD
    rw [b3 _ (by decide) (by decide)]
  have eR : gR σ' = gR σ := by
    funext a i
    unfold gR
    rw [T4]
  have eA : gA σ' = gA σ := by
    funext a i
    unfold gA
    rw [T2]
  have bb : ∀ b, b < 15 ∨ 20 < b → gA τ' b = gA τ b := fun b hb => by
    funext i
    exact b4 b i (Or.inl hb)
  have nE : ∀ q, q ∈ pL σ → pK σ q ≠ 0 → q ≠ e ∧ q ≠ E := fun q hq hk => ⟨fun w => F1 (w ▸ hq), fun w => by
    rcases F2 with ⟨_, z2, z3, _⟩ | ⟨z1, _⟩
    · rw [w] at hk; exact hk z3
    · exact z1 (w ▸ hq)⟩
  refine ⟨?_, ⟨fun i hi => ?_, fun i i' hi hi' w => ?_⟩, ?_, ?_, ?_, ⟨?_, ?_⟩, ?_, ?_⟩
  · obtain ⟨c0, c1, c2, c3, c4, c5, c6, c7, c8, c9, c10⟩ := h1
    unfold CS
    rw [F9'' 0 (by decide) (by decide) (by decide), F9'' 1 (by decide) (by decide) (by decide), F9'' 2 (by decide) (by decide) (by decide), F9'' 3 (by decide) (by decide) (by decide), F9'' 4 (by decide) (by decide) (by decide), F9'' 5 (by decide) (by decide) (by decide), F9'' 6 (by decide) (by decide) (by decide), F9'' 8 (by decide) (by decide) (by decide), F9'' 20 (by decide) (by decide) (by decide), b3 25 (by decide) (by decide), b3 26 (by decide) (by decide), b3 27 (by decide) (by decide), b3 28 (by decide) (by decide), b3 29 (by decide) (by decide), b3 30 (by decide) (by decide), b3 31 (by decide) (by decide), b3 24 (by decide) (by decide), b3 23 (by decide) (by decide), F9, F9', b1, b2]
    exact ⟨c0, c1, c2, c3, c4, c5, c6, by rw [c7], c8, rfl, c10⟩
  · obtain ⟨e1, e2, f⟩ := h2.1 i hi
    have ea : aq σ' i = aq σ i := by
      unfold aq
      rw [eR]
    obtain ⟨n1, n2⟩ := nE _ e2.1 (by rw [e2.2]; decide)
    obtain ⟨u1, u2, u3, u4⟩ := F5 _ n1 n2
    rw [ea, eR, u1, u2, bb 8 (by decide), bb 9 (by decide), bb 10 (by decide), bb 11 (by decide)]
    exact ⟨e1, ⟨(F3 _).mpr (Or.inl e2.1), e2.2⟩, f⟩
  · unfold aq at w
    rw [eR] at w
    exact h2.2 i i' hi hi' w
  · unfold CL
    rw [eA, bb 12 (by decide), bb 13 (by decide), bb 14 (by decide)]
    exact h3
  · have eq1 : ∀ i, i < nO τ → oq σ' i = oq σ i := fun i hi => by
      unfold oq
      rw [F8, F7' i hi]
    have eq2 : oq σ' (nO τ) = e := by
      unfold oq
      rw [F8, F7]
      rfl
    have old : ∀ i, i < nO τ → oq σ i ≠ e ∧ oq σ i ≠ E := fun i hi => nE _ (h4.2.1 i hi).2.1.1 (by rw [(h4.2.1 i hi).2.1.2]; decide)
    have mem : ∀ i, i < nO τ + 1 → oq σ' i ∈ pL σ' ∧ pK σ' (oq σ' i) = 2 := fun i hi => by
      by_cases c : i = nO τ
      · rw [c, eq2]
        exact ⟨(F3 _).mpr (Or.inr (Or.inl rfl)), F4⟩
      · have hi' : i < nO τ := by omega
        rw [eq1 i hi', (F5 _ (old i hi').1 (old i hi').2).1]
        exact ⟨(F3 _).mpr (Or.inl (h4.2.1 i hi').2.1.1), (h4.2.1 i hi').2.1.2⟩
    have rd : ∀ i, i < nO τ + 1 → pR σ' (gE σ' 0) i = some (oq σ' i) := fun i hi => by
      rw [F8]
      by_cases c : i = nO τ
      · rw [c, eq2, F7]
      · have hi' : i < nO τ := by omega
        rw [eq1 i hi', F7' i hi', (h4.2.1 i hi').1]
    unfold CO
    rw [eN]
    refine ⟨Or.inr ⟨?_, ?_, ?_, ?_, ?_⟩, fun i hi => ⟨rd i hi, mem i hi, ?_⟩, fun i i' hi hi' w => ?_⟩
    · rw [F8]
      exact (F3 _).mpr (Or.inr (Or.inr rfl))
    · rw [F8]
      exact F6
    · rw [F8]
      exact F6'
    · rw [F8]
      rcases F2 with ⟨z1, z2, z3, z4⟩ | ⟨_, _, _, z⟩
      · rw [z4, z1]
        rcases h4.1 with ⟨y1, _⟩ | ⟨_, _, _, y4, _⟩
        · exfalso
          exact h6.1 (y1 ▸ z1 ▸ z2) (y1 ▸ z1 ▸ z3)
        · rcases y4 with y4 | y4
          · exact Or.inl y4
          · exact Or.inr ⟨y4.1, by omega⟩
      · rcases z with z | z
        · exact Or.inl z
        · exact Or.inr ⟨z, by omega⟩
    · unfold allIn
      apply List.all_eq_true.mpr
      intro i hi
      have hi2 := List.mem_range.mp hi
      rw [Nat.zero_add, rd i hi2]
      exact decide_eq_true (mem i hi2)
    · by_cases c : i = nO τ
      · rw [c, eq2, p0, p1, p2, p3, p4, p5, y0, y1, y2, y3, y4, y5]
        exact ⟨by rw [h1.2.2.2.2.2.2.2.1], rfl, rfl, rfl, rfl, rfl⟩
      · have hi' : i < nO τ := by omega
        rw [eq1 i hi', (F5 _ (old i hi').1 (old i hi').2).2.1, b4 15 i (Or.inr c), b4 16 i (Or.inr c), b4 17 i (Or.inr c), b4 19 i (Or.inr c), b4 18 i (Or.inr c), b4 20 i (Or.inr c)]
        exact (h4.2.1 i hi').2.2
    · by_cases c : i = nO τ
      · by_cases c' : i' = nO τ
        · omega
        · exfalso
          have hi2 : i' < nO τ := by omega
          rw [c, eq2, eq1 i' hi2] at w
          exact (old i' hi2).1 w.symm
      · have hi2 : i < nO τ := by omega
        by_cases c' : i' = nO τ
        · exfalso
          rw [c', eq2, eq1 i hi2] at w
          exact (old i hi2).1 w
        · have hi3 : i' < nO τ := by omega
          rw [eq1 i hi2, eq1 i' hi3] at w
          exact h4.2.2 i i' hi2 hi3 w
  · have rd : ∀ i, i < nD τ → pR σ' (gE σ' 1) i = pR σ (gE σ 1) i := fun i hi => by
      rw [F8']
      rcases h5.1 with ⟨_, y⟩ | ⟨y1, y2, _⟩
      · omega
      · refine congrFun (F5 _ (fun w => F1 (w ▸ y1)) (fun w => ?_)).2.2.2 i
        rcases F2 with ⟨z1, z2, z3, _⟩ | ⟨z1, _⟩
        · have := h6.2 ((z1 ▸ w).symm)
          exact h6.1 (this ▸ z1 ▸ z2) (this ▸ z1 ▸ z3)
        · exact z1 (w ▸ y1)
    have eq1 : ∀ i, i < nD τ → dq σ' i = dq σ i := fun i hi => by
      unfold dq
      rw [rd i hi]
    have old : ∀ i, i < nD τ → dq σ i ≠ e ∧ dq σ i ≠ E := fun i hi => nE _ (h5.2.1 i hi).2.1.1 (by rw [(h5.2.1 i hi).2.1.2]; decide)
    have mem : ∀ i, i < nD τ → dq σ i ∈ pL σ' ∧ pK σ' (dq σ i) = 3 := fun i hi => by
      rw [(F5 _ (old i hi).1 (old i hi).2).1]
      exact ⟨(F3 _).mpr (Or.inl (h5.2.1 i hi).2.1.1), (h5.2.1 i hi).2.1.2⟩
    unfold CD
    rw [eM]
    refine ⟨?_, fun i hi => ?_, fun i i' hi hi' w => ?_⟩
    · rcases h5.1 with ⟨y1, y2⟩ | ⟨y1, y2, y3, y4, y5⟩
      · exact Or.inl ⟨by rw [F8']; exact y1, y2⟩
      · have hne : gE σ 1 ≠ e ∧ gE σ 1 ≠ E := ⟨fun w => F1 (w ▸ y1), fun w => by
          rcases F2 with ⟨z1, z2, z3, _⟩ | ⟨z1, _⟩
          · have := h6.2 ((z1 ▸ w).symm)
            exact h6.1 (this ▸ z1 ▸ z2) (this ▸ z1 ▸ z3)
          · exact z1 (w ▸ y1)⟩
        obtain ⟨u1, u2, u3, u4⟩ := F5 _ hne.1 hne.2
        refine Or.inr ⟨by rw [F8']; exact (F3 _).mpr (Or.inl y1), by rw [F8', u1]; exact y2, by rw [F8', u3]; exact y3, by rw [F8', u3]; exact y4, ?_⟩
        unfold allIn
        apply List.all_eq_true.mpr
        intro i hi
        have hi2 := List.mem_range.mp hi
        rw [Nat.zero_add, rd i hi2, (h5.2.1 i hi2).1]
        exact decide_eq_true (mem i hi2)
    · rw [eq1 i hi, rd i hi, (F5 _ (old i hi).1 (old i hi).2).2.1, bb 21 (by decide), bb 22 (by decide), bb 23 (by decide), bb 24 (by decide), bb 25 (by decide), bb 26 (by decide)]
      exact ⟨(h5.2.1 i hi).1, mem i hi, (h5.2.1 i hi).2.2⟩
    · rw [eq1 i hi, eq1 i' hi'] at w
      exact h5.2.2 i i' hi hi' w
  · intro w
    rcases (F3 _).mp w with w | w | w
    · by_cases c : eE.1 = E
      · rcases F2 with ⟨z1, z2, z3, _⟩ | ⟨z1, _⟩
        · exact absurd (c ▸ z3) (h6.1 (c ▸ z2))
        · exact absurd (c ▸ w) z1
      · rw [(F5 _ (fun z => F1 (z ▸ w)) c).1]
        exact h6.1 w
    · rw [w, F4]
      decide
    · rcases F2 with ⟨z1, z2, z3, _⟩ | ⟨_, _, z3, _⟩
      · exact absurd (w ▸ z3) (h6.1 (w ▸ z2))
      · exact absurd w.symm z3
  · intro w
    rcases F2 with ⟨z1, z2, z3, _⟩ | ⟨z1, z2, z3, _⟩
    · rw [F8, F8', z1] at w
      rw [F8, z1]
      exact h6.2 w
    · rw [F8, F8'] at w
      exfalso
      rcases h5.1 with ⟨y1, _⟩ | ⟨y1, _⟩
      · exact z3 (w.trans y1)
      · exact z1 (w ▸ y1)
  · obtain ⟨q1, q2, q3, q4⟩ := h7
    refine ⟨fun i hi => (F9'' i (by omega) (by omega) (by omega)).trans (q1 i hi), fun i => ?_, fun a i ha => ?_, fun i => ?_⟩
    · rw [← q2 i]
      unfold gL
      rw [T1]
    · rw [← q3 a i ha, eA]
    · rw [← q4 i]
      unfold gV
      rw [T3]
  · obtain ⟨q1, q2, q3⟩ := h8
    refine ⟨fun i hi => (b3 i (by omega) (by omega)).trans (q1 i hi), fun a i ha => (b4 a i (Or.inl (by omega))).trans (q2 a i ha), ?_⟩
    rw [b7]
    exact q3
theorem g_addO {x1 x2 x3 x4 x5 : Int32} (hG : Good K L τ) (hn : nO τ < 12) (h' : plcO τ x1 x2 x3 x4 x5 τ') (hL : L + 1 < 2 ^ 31) (c1 : ∃ o, o < 6 ∧ x1 = nI o) (c2 : ∃ k, k < 13 ∧ x2 = nI k) (c3 : ∃ w, 1 ≤ w ∧ w ≤ 100000 ∧ x3 = nI w) (c4 : ∃ k, k < 13 ∧ x4 = nI k) (c5 : ∃ g, 1 ≤ g ∧ g ≤ 100000 ∧ x5 = nI g) : Good K (L + 1) τ' := by
  obtain ⟨h1, h2, h3, h4, h5, h6⟩ := hG
  obtain ⟨b1, b2, b3, b4, ⟨p0, p1, p2, p3, p4, p5⟩, b6, b7⟩ := h'
  have eN : nO τ' = nO τ + 1 := by
    show (gI τ' 21).toNatClampNeg = nO τ + 1
    rw [b2, nI_clamp (by omega)]
  have eM : nD τ' = nD τ := by
    unfold nD
    rw [b3 _ (by decide) (by decide)]
  have bb : ∀ b, b < 15 ∨ 20 < b → gA τ' b = gA τ b := fun b hb => by
    funext i
    exact b4 b i (Or.inl hb)
  refine ⟨?_, ?_, ?_, ?_, ?_, ?_⟩
  · unfold GS
    rw [b3 25 (by decide) (by decide), b3 27 (by decide) (by decide), b3 28 (by decide) (by decide), b3 29 (by decide) (by decide)]
    exact h1
  · unfold GA
    rw [bb 8 (by decide), bb 9 (by decide), bb 11 (by decide)]
    exact h2
  · unfold GL
    rw [bb 12 (by decide), bb 13 (by decide)]
    exact h3
  · unfold GQ
    rw [bb 14 (by decide)]
    exact h4
  · obtain ⟨k1, k2, k3, k4, d, k5, k6, k7⟩ := h5
    have ed : gI τ 22 + 1 = nI (d + 1) := by rw [k6, nI_1]
    refine ⟨by rw [eN]; exact b2, by omega, fun i hi => ?_, fun i i' hii hi' => ?_, d + 1, by omega, by rw [b1]; exact ed, fun i hi => ?_⟩
    · rw [eN] at hi
      by_cases c : i = nO τ
      · rw [c, p0, p1, p2, p4, p3, p5, ed]
        exact ⟨⟨d + 1, by omega, by omega, rfl⟩, c1, c2, c4, c3, c5⟩
      · rw [b4 15 i (Or.inr c), b4 16 i (Or.inr c), b4 17 i (Or.inr c), b4 18 i (Or.inr c), b4 19 i (Or.inr c), b4 20 i (Or.inr c)]
        obtain ⟨⟨d0, w1, w2, w3⟩, r⟩ := k3 i (by omega)
        exact ⟨⟨d0, w1, by omega, w3⟩, r⟩
    · rw [eN] at hi'
      by_cases c : i' = nO τ
      · rw [c, p0, ed, nI_toInt (by omega), b4 _ i (Or.inr (by omega))]
        have := k7 i (by omega)
        omega
      · rw [b4 _ i (Or.inr (by omega)), b4 _ i' (Or.inr c)]
        exact k4 i i' hii (by omega)
    · rw [eN] at hi
      by_cases c : i = nO τ
      · rw [c, p0, ed, nI_toInt (by omega)]
        omega
      · rw [b4 _ i (Or.inr c)]
        have := k7 i (by omega)
        omega
  · have h := h6.mono (L' := L + 1) (by omega)
    unfold GD at h ⊢
    rw [eM, b3 23 (by decide) (by decide), b3 24 (by decide) (by decide), bb 21 (by decide), bb 22 (by decide), bb 23 (by decide), bb 24 (by decide)]
    exact h
def AFD (z : Nat) (x1 x2 x3 x4 x5 : Int32) (n : Nat) (σ σ' : ST) (e E : Nat) : Prop := e ∉ pL σ ∧ ((E = gE σ 1 ∧ E ∈ pL σ ∧ pK σ E = 0 ∧ pC σ' E = pC σ E) ∨ (E ∉ pL σ ∧ E ≠ e ∧ E ≠ z ∧ (pC σ' E = 10 ∨ pC σ' E = 15))) ∧ (∀ q, q ∈ pL σ' ↔ q ∈ pL σ ∨ q = e ∨ q = E) ∧ (pK σ' e = 3 ∧ pP σ' e 0 = gI σ 8 + 1 ∧ pP σ' e 1 = x1 ∧ pP σ' e 2 = x2 ∧ pP σ' e 3 = x3 ∧ pP σ' e 4 = x4 ∧ pP σ' e 5 = x5) ∧ (∀ q, q ≠ e → q ≠ E → pK σ' q = pK σ q ∧ pP σ' q = pP σ q ∧ pC σ' q = pC σ q ∧ pR σ' q = pR σ q) ∧ (pK σ' E = 0 ∧ n < pC σ' E) ∧ (pR σ' E n = some e ∧ ∀ i, i < n → pR σ' E i = pR σ (gE σ 1) i) ∧ (gE σ' 1 = E ∧ gE σ' 0 = gE σ 0) ∧ (gI σ' 8 = gI σ 8 + 1 ∧ gI σ' 20 = nI (n + 1) ∧ ∀ i, i ≠ 8 → i ≠ 20 → i ≠ 19 → gI σ' i = gI σ i) ∧ σ'.2.1 = σ.2.1 ∧ σ'.2.2.1 = σ.2.2.1 ∧ σ'.2.2.2.1 = σ.2.2.2.1 ∧ σ'.2.2.2.2.1 = σ.2.2.2.2.1
theorem afD {z n : Nat} {x1 x2 x3 x4 x5 : Int32} (hj : 0 < n → gE σ 1 ∈ pL σ) (h : AddDepositR z x1 x2 x3 x4 x5 n σ σ') : ∃ e E, AFD z x1 x2 x3 x4 x5 n σ σ' e E := by
  obtain ⟨e, τ0, he, rfl, hA⟩ := h
  obtain ⟨s1, s2, s3, s4⟩ := sN_eq (σ := σ) (q := e) (kd := 3) (c := 0) (p := fun _ => 0) (f := fun _ => none)
  have mK : ∀ q, q ≠ e → pK (sI (mkDeposit x1 x2 x3 x4 x5 e (sN σ e 3 (fun _ => 0) 0 (fun _ => none))) 19 (gI (mkDeposit x1 x2 x3 x4 x5 e (sN σ e 3 (fun _ => 0) 0 (fun _ => none))) 19 + 1)) q = pK σ q ∧ pP (sI (mkDeposit x1 x2 x3 x4 x5 e (sN σ e 3 (fun _ => 0) 0 (fun _ => none))) 19 (gI (mkDeposit x1 x2 x3 x4 x5 e (sN σ e 3 (fun _ => 0) 0 (fun _ => none))) 19 + 1)) q = pP σ q ∧ pC (sI (mkDeposit x1 x2 x3 x4 x5 e (sN σ e 3 (fun _ => 0) 0 (fun _ => none))) 19 (gI (mkDeposit x1 x2 x3 x4 x5 e (sN σ e 3 (fun _ => 0) 0 (fun _ => none))) 19 + 1)) q = pC σ q ∧ pR (sI (mkDeposit x1 x2 x3 x4 x5 e (sN σ e 3 (fun _ => 0) 0 (fun _ => none))) 19 (gI (mkDeposit x1 x2 x3 x4 x5 e (sN σ e 3 (fun _ => 0) 0 (fun _ => none))) 19 + 1)) q = pR σ q := fun q hq => by
    obtain ⟨t1, t2, t3, t4⟩ := sN_ne (σ := σ) (kd := 3) (c := 0) (p := fun _ => 0) (f := fun _ => none) hq
    refine ⟨t1, ?_, t3, t4⟩
    funext i
    unfold mkDeposit
    simp only [pP_sP, pP_sI, if_neg hq]
    exact congrFun t2 i
  have mP : pP (mkDeposit x1 x2 x3 x4 x5 e (sN σ e 3 (fun _ => 0) 0 (fun _ => none))) e 0 = gI σ 8 + 1 ∧ pP (mkDeposit x1 x2 x3 x4 x5 e (sN σ e 3 (fun _ => 0) 0 (fun _ => none))) e 1 = x1 ∧ pP (mkDeposit x1 x2 x3 x4 x5 e (sN σ e 3 (fun _ => 0) 0 (fun _ => none))) e 2 = x2 ∧ pP (mkDeposit x1 x2 x3 x4 x5 e (sN σ e 3 (fun _ => 0) 0 (fun _ => none))) e 3 = x3 ∧ pP (mkDeposit x1 x2 x3 x4 x5 e (sN σ e 3 (fun _ => 0) 0 (fun _ => none))) e 4 = x4 ∧ pP (mkDeposit x1 x2 x3 x4 x5 e (sN σ e 3 (fun _ => 0) 0 (fun _ => none))) e 5 = x5 := by
    unfold mkDeposit
    simp only [pP_sP, reduceIte, Nat.reduceEqDiff]
    exact ⟨rfl, trivial, trivial, trivial, trivial, trivial⟩
  have mI : ∀ i, i ≠ 8 → i ≠ 19 → gI (sI (mkDeposit x1 x2 x3 x4 x5 e (sN σ e 3 (fun _ => 0) 0 (fun _ => none))) 19 (gI (mkDeposit x1 x2 x3 x4 x5 e (sN σ e 3 (fun _ => 0) 0 (fun _ => none))) 19 + 1)) i = gI σ i := fun i h1 h2 => by
    unfold mkDeposit
    rw [gI_sI, if_neg h2]
    simp only [gI_sP, gI_sI, if_neg h1]
    rfl
  have mL : gI (sI (mkDeposit x1 x2 x3 x4 x5 e (sN σ e 3 (fun _ => 0) 0 (fun _ => none))) 19 (gI (mkDeposit x1 x2 x3 x4 x5 e (sN σ e 3 (fun _ => 0) 0 (fun _ => none))) 19 + 1)) 8 = gI σ 8 + 1 := rfl
  have mE : pK (sI (mkDeposit x1 x2 x3 x4 x5 e (sN σ e 3 (fun _ => 0) 0 (fun _ => none))) 19 (gI (mkDeposit x1 x2 x3 x4 x5 e (sN σ e 3 (fun _ => 0) 0 (fun _ => none))) 19 + 1)) e = 3 := s1
  have mL2 : pL (sI (mkDeposit x1 x2 x3 x4 x5 e (sN σ e 3 (fun _ => 0) 0 (fun _ => none))) 19 (gI (mkDeposit x1 x2 x3 x4 x5 e (sN σ e 3 (fun _ => 0) 0 (fun _ => none))) 19 + 1)) = pL σ ++ [e] := rfl
  have mG : gE (sI (mkDeposit x1 x2 x3 x4 x5 e (sN σ e 3 (fun _ => 0) 0 (fun _ => none))) 19 (gI (mkDeposit x1 x2 x3 x4 x5 e (sN σ e 3 (fun _ => 0) 0 (fun _ => none))) 19 + 1)) = gE σ := rfl
  have mT : (sI (mkDeposit x1 x2 x3 x4 x5 e (sN σ e 3 (fun _ => 0) 0 (fun _ => none))) 19 (gI (mkDeposit x1 x2 x3 x4 x5 e (sN σ e 3 (fun _ => 0) 0 (fun _ => none))) 19 + 1)).2.1 = σ.2.1 ∧ (sI (mkDeposit x1 x2 x3 x4 x5 e (sN σ e 3 (fun _ => 0) 0 (fun _ => none))) 19 (gI (mkDeposit x1 x2 x3 x4 x5 e (sN σ e 3 (fun _ => 0) 0 (fun _ => none))) 19 + 1)).2.2.1 = σ.2.2.1 ∧ (sI (mkDeposit x1 x2 x3 x4 x5 e (sN σ e 3 (fun _ => 0) 0 (fun _ => none))) 19 (gI (mkDeposit x1 x2 x3 x4 x5 e (sN σ e 3 (fun _ => 0) 0 (fun _ => none))) 19 + 1)).2.2.2.1 = σ.2.2.2.1 ∧ (sI (mkDeposit x1 x2 x3 x4 x5 e (sN σ e 3 (fun _ => 0) 0 (fun _ => none))) 19 (gI (mkDeposit x1 x2 x3 x4 x5 e (sN σ e 3 (fun _ => 0) 0 (fun _ => none))) 19 + 1)).2.2.2.2.1 = σ.2.2.2.2.1 := ⟨rfl, rfl, rfl, rfl⟩
  have mP' : pP (sI (mkDeposit x1 x2 x3 x4 x5 e (sN σ e 3 (fun _ => 0) 0 (fun _ => none))) 19 (gI (mkDeposit x1 x2 x3 x4 x5 e (sN σ e 3 (fun _ => 0) 0 (fun _ => none))) 19 + 1)) e = pP (mkDeposit x1 x2 x3 x4 x5 e (sN σ e 3 (fun _ => 0) 0 (fun _ => none))) e := rfl
  generalize (sI (mkDeposit x1 x2 x3 x4 x5 e (sN σ e 3 (fun _ => 0) 0 (fun _ => none))) 19 (gI (mkDeposit x1 x2 x3 x4 x5 e (sN σ e 3 (fun _ => 0) 0 (fun _ => none))) 19 + 1)) = σm at *
  rw [← mP'] at mP
  rcases hA with ⟨a1, a2, a3, rfl⟩ | ⟨E, τ1, ⟨c, f, b1, b2, b3, b4, b5, rfl⟩, rfl⟩
  · rw [mG] at a1 a2 a3
    have hne : gE σ 1 ≠ e := fun w => by rw [w, mE] at a2; exact absurd a2 (by decide)
    obtain ⟨t1, t2, t3, t4⟩ := mK _ hne
    rw [mL2] at a1
    have a1' : gE σ 1 ∈ pL σ := (List.mem_append.mp a1).elim id (fun w => absurd (List.mem_singleton.mp w) hne)
    rw [mG]
    refine ⟨e, gE σ 1, he, Or.inl ⟨rfl, a1', by rw [← t1]; exact a2, t3⟩, fun q => ?_, ⟨mE, mP⟩, fun q h1 h2 => ?_, ⟨a2, a3⟩, ⟨?_, fun i hi => ?_⟩, ⟨congrFun mG _, congrFun mG _⟩, ⟨?_, ?_, fun i h1 h2 h3 => ?_⟩, mT⟩
    · rw [pL_sI, pL_sQ, mL2, List.mem_append, List.mem_singleton]
      constructor
      · intro w
        rcases w with w | w
        · exact Or.inl w
        · exact Or.inr (Or.inl w)
      · intro w
        rcases w with w | w | w
        · exact Or.inl w
        · exact Or.inr w
        · exact Or.inl (w ▸ a1')
    · obtain ⟨u1, u2, u3, u4⟩ := mK q h1
      refine ⟨u1, u2, u3, ?_⟩
      funext i
      rw [pR_sI, pR_sQ, if_neg h2, u4]
    · rw [pR_sI, pR_sQ, if_pos rfl, if_pos rfl]
    · rw [pR_sI, pR_sQ, if_pos rfl, if_neg (by omega), t4]
    · rw [gI_sI, if_neg (by decide), gI_sQ, mL]
    · rw [gI_sI, if_pos rfl]
    · rw [gI_sI, if_neg h2, gI_sQ, mI i h1 h3]
  · rw [mL2] at b1
    have hE1 : E ∉ pL σ := fun w => b1 (List.mem_append_left _ w)
    have hE2 : E ≠ e := fun w => b1 (List.mem_append_right _ (by rw [w]; exact List.mem_singleton.mpr rfl))
    obtain ⟨r1, r2, r3, r4⟩ := sN_eq (σ := σm) (q := E) (kd := 0) (c := c) (p := fun _ => 0) (f := f)
    have rn := fun q (hq : q ≠ E) => sN_ne (σ := σm) (kd := 0) (c := c) (p := fun _ => 0) (f := f) hq
    rw [mG] at b5
    refine ⟨e, E, he, Or.inr ⟨hE1, hE2, b2, ?_⟩, fun q => ?_, ?_, fun q h1 h2 => ?_, ⟨r1, ?_⟩, ⟨?_, fun i hi => ?_⟩, ⟨?_, ?_⟩, ⟨?_, ?_, fun i h1 h2 h3 => ?_⟩, mT⟩
    · rw [pC_sI, pC_sQ, pC_sE, r3]
      exact b4
    · rw [pL_sI, pL_sQ, pL_sE, sN_pL, mL2, List.mem_append, List.mem_append, List.mem_singleton, List.mem_singleton]
      constructor
      · intro w
        rcases w with (w | w) | w
        · exact Or.inl w
        · exact Or.inr (Or.inl w)
        · exact Or.inr (Or.inr w)
      · intro w
        rcases w with w | w | w
        · exact Or.inl (Or.inl w)
        · exact Or.inl (Or.inr w)
        · exact Or.inr w
    · obtain ⟨v1, v2, v3, v4⟩ := rn e (Ne.symm hE2)
      rw [pK_sI, pK_sQ, pK_sE, v1]
      refine ⟨mE, ?_⟩
      simp only [pP_sI, pP_sQ, pP_sE, v2]
      exact mP
    · obtain ⟨u1, u2, u3, u4⟩ := mK q h1
      obtain ⟨v1, v2, v3, v4⟩ := rn q h2
      refine ⟨v1.trans u1, v2.trans u2, v3.trans u3, ?_⟩
      funext i
      rw [pR_sI, pR_sQ, if_neg h2, pR_sE, v4, u4]
    · rw [pC_sI, pC_sQ, pC_sE, r3]
      exact b3
    · rw [pR_sI, pR_sQ, if_pos rfl, if_pos rfl]
    · rw [pR_sI, pR_sQ, if_pos rfl, if_neg (by omega), pR_sE, r4, b5 i hi]
      have hgj : pR σm (gE σ 1) i = pR σ (gE σ 1) i := by rw [(mK (gE σ 1) (fun w => he (w ▸ hj (by omega)))).2.2.2]
      exact hgj
    · rw [gE_sI, gE_sQ, gE_sE, if_pos rfl]
    · rw [gE_sI, gE_sQ, gE_sE, if_neg (by decide)]
      exact congrFun mG _
    · rw [gI_sI, if_neg (by decide), gI_sQ, gI_sE]
      exact mL
    · rw [gI_sI, if_pos rfl]
    · rw [gI_sI, if_neg h2, gI_sQ, gI_sE]
      exact mI i h1 h3
/-- the reference's new entry -/
def plcD (τ : ST) (x1 x2 x3 x4 x5 : Int32) (τ' : ST) : Prop := gI τ' 24 = gI τ 24 + 1 ∧ gI τ' 23 = nI (nD τ + 1) ∧ (∀ i, i ≠ 24 → i ≠ 23 → gI τ' i = gI τ i) ∧ (∀ b i, (b < 21 ∨ 26 < b) ∨ i ≠ nD τ → gA τ' b i = gA τ b i) ∧ (gA τ' 21 (nD τ) = gI τ 24 + 1 ∧ gA τ' 22 (nD τ) = x1 ∧ gA τ' 23 (nD τ) = x2 ∧ gA τ' 24 (nD τ) = x3 ∧ gA τ' 25 (nD τ) = x4 ∧ gA τ' 26 (nD τ) = x5) ∧ τ'.2.1 = τ.2.1 ∧ τ'.2.2.2 = τ.2.2.2
theorem core_addD {x1 x2 x3 x4 x5 : Int32} (hC : Core eE μ ν σ τ) (hG : Good K L τ) (hn : nD τ < 6) (h : AddDepositR eE.1 x1 x2 x3 x4 x5 (nD τ) σ σ') (h' : plcD τ x1 x2 x3 x4 x5 τ') : Core eE μ ν σ' τ' := by
  obtain ⟨h1, h2, h3, h4, h5, h6, h7, h8⟩ := hC
  have hjj : 0 < nD τ → gE σ 1 ∈ pL σ := fun w => by
    rcases h5.1 with ⟨_, z⟩ | ⟨z, _⟩
    · omega
    · exact z
  obtain ⟨e, E, F1, F2, F3, ⟨F4, y0, y1, y2, y3, y4, y5⟩, F5, ⟨F6, F6'⟩, ⟨F7, F7'⟩, ⟨F8, F8'⟩, ⟨F9, F9', F9''⟩, T1, T2, T3, T4⟩ := afD hjj h
  obtain ⟨b1, b2, b3, b4, ⟨p0, p1, p2, p3, p4, p5⟩, b6, b7⟩ := h'
  have eN : nD τ' = nD τ + 1 := by
    show (gI τ' 23).toNatClampNeg = nD τ + 1
    rw [b2, nI_clamp (by omega)]
  have eM : nO τ' = nO τ := by
    unfold nO
    rw [b3 _ (by decide) (by decide)]
  have eR : gR σ' = gR σ := by
    funext a i
    unfold gR
    rw [T4]
  have eA : gA σ' = gA σ := by
    funext a i
    unfold gA
    rw [T2]
  have bb : ∀ b, b < 21 ∨ 26 < b → gA τ' b = gA τ b := fun b hb => by
    funext i
    exact b4 b i (Or.inl hb)
  have nE : ∀ q, q ∈ pL σ → pK σ q ≠ 0 → q ≠ e ∧ q ≠ E := fun q hq hk => ⟨fun w => F1 (w ▸ hq), fun w => by
    rcases F2 with ⟨_, z2, z3, _⟩ | ⟨z1, _⟩
    · rw [w] at hk; exact hk z3
    · exact z1 (w ▸ hq)⟩
  refine ⟨?_, ⟨fun i hi => ?_, fun i i' hi hi' w => ?_⟩, ?_, ?_, ?_, ⟨?_, ?_⟩, ?_, ?_⟩
  · obtain ⟨c0, c1, c2, c3, c4, c5, c6, c7, c8, c9, c10⟩ := h1
    unfold CS
    rw [F9'' 0 (by decide) (by decide) (by decide), F9'' 1 (by decide) (by decide) (by decide), F9'' 2 (by decide) (by decide) (by decide), F9'' 3 (by decide) (by decide) (by decide), F9'' 4 (by decide) (by decide) (by decide), F9'' 5 (by decide) (by decide) (by decide), F9'' 6 (by decide) (by decide) (by decide), F9'' 7 (by decide) (by decide) (by decide), F9'' 18 (by decide) (by decide) (by decide), b3 25 (by decide) (by decide), b3 26 (by decide) (by decide), b3 27 (by decide) (by decide), b3 28 (by decide) (by decide), b3 29 (by decide) (by decide), b3 30 (by decide) (by decide), b3 31 (by decide) (by decide), b3 22 (by decide) (by decide), b3 21 (by decide) (by decide), F9, F9', b1, b2]
    exact ⟨c0, c1, c2, c3, c4, c5, c6, c7, by rw [c8], c9, rfl⟩
  · obtain ⟨e1, e2, f⟩ := h2.1 i hi
    have ea : aq σ' i = aq σ i := by
      unfold aq
      rw [eR]
    obtain ⟨n1, n2⟩ := nE _ e2.1 (by rw [e2.2]; decide)
    obtain ⟨u1, u2, u3, u4⟩ := F5 _ n1 n2
    rw [ea, eR, u1, u2, bb 8 (by decide), bb 9 (by decide), bb 10 (by decide), bb 11 (by decide)]
    exact ⟨e1, ⟨(F3 _).mpr (Or.inl e2.1), e2.2⟩, f⟩
  · unfold aq at w
    rw [eR] at w
    exact h2.2 i i' hi hi' w
  · unfold CL
    rw [eA, bb 12 (by decide), bb 13 (by decide), bb 14 (by decide)]
    exact h3
  · have rd : ∀ i, i < nO τ → pR σ' (gE σ' 0) i = pR σ (gE σ 0) i := fun i hi => by
      rw [F8']
      rcases h4.1 with ⟨_, y⟩ | ⟨y1, y2, _⟩
      · omega
      · refine congrFun (F5 _ (fun w => F1 (w ▸ y1)) (fun w => ?_)).2.2.2 i
        rcases F2 with ⟨z1, z2, z3, _⟩ | ⟨z1, _⟩
        · have := h6.2 (w.trans z1)
          exact h6.1 (this ▸ y1) (this ▸ y2)
        · exact z1 (w ▸ y1)
    have eq1 : ∀ i, i < nO τ → oq σ' i = oq σ i := fun i hi => by
      unfold oq
      rw [rd i hi]
    have old : ∀ i, i < nO τ → oq σ i ≠ e ∧ oq σ i ≠ E := fun i hi => nE _ (h4.2.1 i hi).2.1.1 (by rw [(h4.2.1 i hi).2.1.2]; decide)
    have mem : ∀ i, i < nO τ → oq σ i ∈ pL σ' ∧ pK σ' (oq σ i) = 2 := fun i hi => by
      rw [(F5 _ (old i hi).1 (old i hi).2).1]
      exact ⟨(F3 _).mpr (Or.inl (h4.2.1 i hi).2.1.1), (h4.2.1 i hi).2.1.2⟩
    unfold CO
    rw [eM]
    refine ⟨?_, fun i hi => ?_, fun i i' hi hi' w => ?_⟩
    · rcases h4.1 with ⟨y1, y2⟩ | ⟨y1, y2, y3, y4, y5⟩
      · exact Or.inl ⟨by rw [F8']; exact y1, y2⟩
      · have hne : gE σ 0 ≠ e ∧ gE σ 0 ≠ E := ⟨fun w => F1 (w ▸ y1), fun w => by
          rcases F2 with ⟨z1, z2, z3, _⟩ | ⟨z1, _⟩
          · have := h6.2 (w.trans z1)
            exact h6.1 (this ▸ y1) (this ▸ y2)
          · exact z1 (w ▸ y1)⟩
        obtain ⟨u1, u2, u3, u4⟩ := F5 _ hne.1 hne.2
        refine Or.inr ⟨by rw [F8']; exact (F3 _).mpr (Or.inl y1), by rw [F8', u1]; exact y2, by rw [F8', u3]; exact y3, by rw [F8', u3]; exact y4, ?_⟩
        unfold allIn
        apply List.all_eq_true.mpr
        intro i hi
        have hi2 := List.mem_range.mp hi
        rw [Nat.zero_add, rd i hi2, (h4.2.1 i hi2).1]
        exact decide_eq_true (mem i hi2)
    · rw [eq1 i hi, rd i hi, (F5 _ (old i hi).1 (old i hi).2).2.1, bb 15 (by decide), bb 16 (by decide), bb 17 (by decide), bb 18 (by decide), bb 19 (by decide), bb 20 (by decide)]
      exact ⟨(h4.2.1 i hi).1, mem i hi, (h4.2.1 i hi).2.2⟩
    · rw [eq1 i hi, eq1 i' hi'] at w
      exact h4.2.2 i i' hi hi' w
  · have eq1 : ∀ i, i < nD τ → dq σ' i = dq σ i := fun i hi => by
      unfold dq
      rw [F8, F7' i hi]
    have eq2 : dq σ' (nD τ) = e := by
      unfold dq
      rw [F8, F7]
      rfl
    have old : ∀ i, i < nD τ → dq σ i ≠ e ∧ dq σ i ≠ E := fun i hi => nE _ (h5.2.1 i hi).2.1.1 (by rw [(h5.2.1 i hi).2.1.2]; decide)
    have mem : ∀ i, i < nD τ + 1 → dq σ' i ∈ pL σ' ∧ pK σ' (dq σ' i) = 3 := fun i hi => by
      by_cases c : i = nD τ
      · rw [c, eq2]
        exact ⟨(F3 _).mpr (Or.inr (Or.inl rfl)), F4⟩
      · have hi' : i < nD τ := by omega
        rw [eq1 i hi', (F5 _ (old i hi').1 (old i hi').2).1]
        exact ⟨(F3 _).mpr (Or.inl (h5.2.1 i hi').2.1.1), (h5.2.1 i hi').2.1.2⟩
    have rd : ∀ i, i < nD τ + 1 → pR σ' (gE σ' 1) i = some (dq σ' i) := fun i hi => by
      rw [F8]
      by_cases c : i = nD τ
      · rw [c, eq2, F7]
      · have hi' : i < nD τ := by omega
        rw [eq1 i hi', F7' i hi', (h5.2.1 i hi').1]
    unfold CD
    rw [eN]
    refine ⟨Or.inr ⟨?_, ?_, ?_, ?_, ?_⟩, fun i hi => ⟨rd i hi, mem i hi, ?_⟩, fun i i' hi hi' w => ?_⟩
    · rw [F8]
      exact (F3 _).mpr (Or.inr (Or.inr rfl))
    · rw [F8]
      exact F6
    · rw [F8]
      exact F6'
    · rw [F8]
      rcases F2 with ⟨z1, z2, z3, z4⟩ | ⟨_, _, _, z⟩
      · rw [z4, z1]
        rcases h5.1 with ⟨y1, _⟩ | ⟨_, _, _, y4, _⟩
        · exfalso
          exact h6.1 (y1 ▸ z1 ▸ z2) (y1 ▸ z1 ▸ z3)
        · rcases y4 with y4 | y4
          · exact Or.inl y4
          · exact Or.inr ⟨y4.1, by omega⟩
      · rcases z with z | z
        · exact Or.inl z
        · exact Or.inr ⟨z, by omega⟩
    · unfold allIn
      apply List.all_eq_true.mpr
      intro i hi
      have hi2 := List.mem_range.mp hi
      rw [Nat.zero_add, rd i hi2]
      exact decide_eq_true (mem i hi2)
    · by_cases c : i = nD τ
      · rw [c, eq2, p0, p1, p2, p3, p4, p5, y0, y1, y2, y3, y4, y5]
        exact ⟨by rw [h1.2.2.2.2.2.2.2.2.1], rfl, rfl, rfl, rfl, rfl⟩
      · have hi' : i < nD τ := by omega
        rw [eq1 i hi', (F5 _ (old i hi').1 (old i hi').2).2.1, b4 21 i (Or.inr c), b4 22 i (Or.inr c), b4 23 i (Or.inr c), b4 24 i (Or.inr c), b4 25 i (Or.inr c), b4 26 i (Or.inr c)]
        exact (h5.2.1 i hi').2.2
    · by_cases c : i = nD τ
      · by_cases c' : i' = nD τ
        · omega
        · exfalso
          have hi2 : i' < nD τ := by omega
          rw [c, eq2, eq1 i' hi2] at w
          exact (old i' hi2).1 w.symm
      · have hi2 : i < nD τ := by omega
        by_cases c' : i' = nD τ
        · exfalso
          rw [c', eq2, eq1 i hi2] at w
          exact (old i hi2).1 w
        · have hi3 : i' < nD τ := by omega
          rw [eq1 i hi2, eq1 i' hi3] at w
          exact h5.2.2 i i' hi2 hi3 w
  · intro w
    rcases (F3 _).mp w with w | w | w
    · by_cases c : eE.1 = E
      · rcases F2 with ⟨z1, z2, z3, _⟩ | ⟨z1, _⟩
        · exact absurd (c ▸ z3) (h6.1 (c ▸ z2))
        · exact absurd (c ▸ w) z1
      · rw [(F5 _ (fun z => F1 (z ▸ w)) c).1]
        exact h6.1 w
    · rw [w, F4]
      decide
    · rcases F2 with ⟨z1, z2, z3, _⟩ | ⟨_, _, z3, _⟩
      · exact absurd (w ▸ z3) (h6.1 (w ▸ z2))
      · exact absurd w.symm z3
  · intro w
    rcases F2 with ⟨z1, z2, z3, _⟩ | ⟨z1, z2, z3, _⟩
    · rw [F8', F8, z1] at w
      rw [F8']
      exact h6.2 w
    · rw [F8', F8] at w
      exfalso
      rcases h4.1 with ⟨y1, _⟩ | ⟨y1, _⟩
      · exact z3 (w.symm.trans y1)
      · exact z1 (w ▸ y1)
  · obtain ⟨q1, q2, q3, q4⟩ := h7
    refine ⟨fun i hi => (F9'' i (by omega) (by omega) (by omega)).trans (q1 i hi), fun i => ?_, fun a i ha => ?_, fun i => ?_⟩
    · rw [← q2 i]
      unfold gL
      rw [T1]
    · rw [← q3 a i ha, eA]
    · rw [← q4 i]
      unfold gV
      rw [T3]
  · obtain ⟨q1, q2, q3⟩ := h8
    refine ⟨fun i hi => (b3 i (by omega) (by omega)).trans (q1 i hi), fun a i ha => (b4 a i (Or.inl (by omega))).trans (q2 a i ha), ?_⟩
    rw [b7]
    exact q3
theorem g_addD {x1 x2 x3 x4 x5 : Int32} (hG : Good K L τ) (hn : nD τ < 6) (h' : plcD τ x1 x2 x3 x4 x5 τ') (hL : L + 1 < 2 ^ 31) (c1 : ∃ o, o < 6 ∧ x1 = nI o) (c2 : ∃ o, o < 6 ∧ x2 = nI o) (c3 : ∃ m, m ≤ 1000000 ∧ x3 = nI m) : Good K (L + 1) τ' := by
  obtain ⟨h1, h2, h3, h4, h5, h6⟩ := hG
  obtain ⟨b1, b2, b3, b4, ⟨p0, p1, p2, p3, p4, p5⟩, b6, b7⟩ := h'
  have eN : nD τ' = nD τ + 1 := by
    show (gI τ' 23).toNatClampNeg = nD τ + 1
    rw [b2, nI_clamp (by omega)]
  have eM : nO τ' = nO τ := by
    unfold nO
    rw [b3 _ (by decide) (by decide)]
  have bb : ∀ b, b < 21 ∨ 26 < b → gA τ' b = gA τ b := fun b hb => by
    funext i
    exact b4 b i (Or.inl hb)
  refine ⟨?_, ?_, ?_, ?_, ?_, ?_⟩
  · unfold GS
    rw [b3 25 (by decide) (by decide), b3 27 (by decide) (by decide), b3 28 (by decide) (by decide), b3 29 (by decide) (by decide)]
    exact h1
  · unfold GA
    rw [bb 8 (by decide), bb 9 (by decide), bb 11 (by decide)]
    exact h2
  · unfold GL
    rw [bb 12 (by decide), bb 13 (by decide)]
    exact h3
  · unfold GQ
    rw [bb 14 (by decide)]
    exact h4
  · have h := h5.mono (L' := L + 1) (by omega)
    unfold GO at h ⊢
    rw [eM, b3 21 (by decide) (by decide), b3 22 (by decide) (by decide), bb 15 (by decide), bb 16 (by decide), bb 17 (by decide), bb 18 (by decide), bb 19 (by decide), bb 20 (by decide)]
    exact h
  · obtain ⟨k1, k2, k3, k4, d, k5, k6, k7⟩ := h6
    have ed : gI τ 24 + 1 = nI (d + 1) := by rw [k6, nI_1]
    refine ⟨by rw [eN]; exact b2, by omega, fun i hi => ?_, fun i i' hii hi' => ?_, d + 1, by omega, by rw [b1]; exact ed, fun i hi => ?_⟩
    · rw [eN] at hi
      by_cases c : i = nD τ
      · rw [c, p0, p1, p2, p3, ed]
        exact ⟨⟨d + 1, by omega, by omega, rfl⟩, c1, c2, c3⟩
      · rw [b4 21 i (Or.inr c), b4 22 i (Or.inr c), b4 23 i (Or.inr c), b4 24 i (Or.inr c)]
        obtain ⟨⟨d0, w1, w2, w3⟩, r⟩ := k3 i (by omega)
        exact ⟨⟨d0, w1, by omega, w3⟩, r⟩
    · rw [eN] at hi'
      by_cases c : i' = nD τ
      · rw [c, p0, ed, nI_toInt (by omega), b4 _ i (Or.inr (by omega))]
        have := k7 i (by omega)
        omega
      · rw [b4 _ i (Or.inr (by omega)), b4 _ i' (Or.inr c)]
        exact k4 i i' hii (by omega)
    · rw [eN] at hi
      by_cases c : i = nD τ
      · rw [c, p0, ed, nI_toInt (by omega)]
        omega
      · rw [b4 _ i (Or.inr c)]
        have := k7 i (by omega)
        omega
end ADD
