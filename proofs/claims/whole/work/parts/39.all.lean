section ALL
variable {eE : Nat × Nat}
/-- a step in lockstep, with what it may add to the bounds -/
theorem ok_of {c K' L' : Nat} {σ : ST} {F G : ST → Option (Int32 × ST)} (hc : c < 512) (hI : Inv eE c σ) (hK : K' ≤ 4190000) (hL : L' ≤ 1) (h : ∀ μ ν τ : ST, Core eE μ ν σ τ → Good (1000000 + 4190000 * c) c τ → ∃ (r : Int32) (σ1 τ1 : ST), F σ = some (r, σ1) ∧ G τ = some (r, τ1) ∧ Core eE μ ν σ1 τ1 ∧ Good (1000000 + 4190000 * c + K') (c + L') τ1) : ∃ (r : Int32) (σ1 σ2 : ST), F σ = some (r, σ1) ∧ G σ1 = some (r, σ2) ∧ Inv eE (c + 1) σ2 :=
  step_of hI hc (fun μ ν τ hC hG => by
    obtain ⟨r, σ1, τ1, e1, e2, h1, h2⟩ := h μ ν τ hC hG
    exact ⟨r, σ1, τ1, e1, e2, h1, h2.mono (by omega) (by omega)⟩)
theorem all_ok (eE : Nat × Nat) : AllOk eE (Inv eE) := by
  refine ⟨?_, ?_, ?_, ?_, ?_, ?_, ?_, ?_, ?_, ?_, ?_, ?_, ?_, ?_, ?_, ?_, ?_, ?_, ?_, ?_⟩
  · intro c σ x1 x2 hc hI
    exact ok_of (F := TL_by x1 x2) (G := MD_by x1 x2) (K' := 0) (L' := 0) hc hI (by omega) (by omega) (fun μ ν τ hC hG => s_by hC hG)
  · intro c σ x1 x2 hc hI
    exact ok_of (F := TL_send x1 x2) (G := MD_send x1 x2) (K' := 2100000) (L' := 0) hc hI (by omega) (by omega) (fun μ ν τ hC hG => s_send hC hG (by omega))
  · intro c σ x1 x2 x3 x4 hx hc hI
    exact ok_of (F := TL_trust x1 x2 x3 x4) (G := MD_trust x1 x2 x3 x4) (K' := 10) (L' := 0) hc hI (by omega) (by omega) (fun μ ν τ hC hG => s_trust hx hC hG (by omega))
  · intro c σ x1 hc hI
    exact ok_of (F := TL_rate x1) (G := MD_rate x1) (K' := 10) (L' := 0) hc hI (by omega) (by omega) (fun μ ν τ hC hG => s_rate hC hG (by omega))
  · intro c σ x1 x2 x3 hx hc hI
    exact ok_of (F := TL_spend x1 x2 x3) (G := MD_spend x1 x2 x3) (K' := 0) (L' := 0) hc hI (by omega) (by omega) (fun μ ν τ hC hG => s_spend hx hC hG)
  · intro c σ x1 x2 x3 hc hI
    exact ok_of (F := TL_pay x1 x2 x3) (G := MD_pay x1 x2 x3) (K' := 4189500) (L' := 0) hc hI (by omega) (by omega) (fun μ ν τ hC hG => s_pay hC hG (by omega))
  · intro c σ x1 x2 x3 x4 x5 hc hI
    exact step_off (F := TL_offer x1 x2 x3 x4 x5) (G := MD_offer x1 x2 x3 x4 x5) hI (fun μ ν τ hC hG => by
      obtain ⟨res, r, τ1, e1, e2, h1, h2, h3⟩ := s_offer (x1 := x1) (x2 := x2) (x3 := x3) (x4 := x4) (x5 := x5) hC hG (by omega) (by omega)
      exact ⟨res, r, τ1, e1, e2, h1, h2, h3.mono (by omega) (Nat.le_refl _)⟩)
  · intro c σ x1 hc hI
    exact ok_of (F := TL_cancel x1) (G := MD_cancel x1) (K' := 10) (L' := 0) hc hI (by omega) (by omega) (fun μ ν τ hC hG => s_cancel hC hG (by omega))
  · intro c σ x1 x2 x3 x4 hc hI
    exact step_dep (F := TL_deposit x1 x2 x3 x4) (G := MD_deposit x1 x2 x3 x4) hI (fun μ ν τ hC hG => by
      obtain ⟨res, r, τ1, e1, e2, h1, h2, h3⟩ := s_deposit (x1 := x1) (x2 := x2) (x3 := x3) (x4 := x4) hC hG (by omega) (by omega)
      exact ⟨res, r, τ1, e1, e2, h1, h2, h3.mono (by omega) (Nat.le_refl _)⟩)
  · intro c σ x1 hc hI
    exact ok_of (F := TL_settle x1) (G := MD_settle x1) (K' := 1000100) (L' := 0) hc hI (by omega) (by omega) (fun μ ν τ hC hG => s_settle hC hG (by omega))
  · intro c σ x1 hc hI
    exact ok_of (F := TL_tick x1) (G := MD_tick x1) (K' := 0) (L' := 0) hc hI (by omega) (by omega) (fun μ ν τ hC hG => s_tick hC hG)
  · intro c σ x1 x2 hc hI
    obtain ⟨r, e1, e2⟩ := s_account (x1 := x1) (x2 := x2) hI.1 hI.2
    exact ⟨r, e1, e2, Inv_mono eE c σ hI⟩
  · intro c σ x1 x2 x3 hc hI
    obtain ⟨r, e1, e2⟩ := s_balance (x1 := x1) (x2 := x2) (x3 := x3) hI.1
    exact ⟨r, e1, e2, Inv_mono eE c σ hI⟩
  · intro c σ x1 x2 x3 hc hI
    obtain ⟨r, e1, e2⟩ := s_limit (x1 := x1) (x2 := x2) (x3 := x3) hI.1
    exact ⟨r, e1, e2, Inv_mono eE c σ hI⟩
  · intro c σ x1 x2 hc hI
    obtain ⟨r, e1, e2⟩ := s_funds (x1 := x1) (x2 := x2) hI.1 hI.2
    exact ⟨r, e1, e2, Inv_mono eE c σ hI⟩
  · intro c σ x1 x2 x3 hc hI
    exact ok_of (F := TL_book x1 x2 x3) (G := MD_book x1 x2 x3) (K' := 0) (L' := 0) hc hI (by omega) (by omega) (fun μ ν τ hC hG => s_book hC hG)
  · intro c σ x1 x2 hc hI
    obtain ⟨r, e1, e2⟩ := s_offerOf (x1 := x1) (x2 := x2) hI.1 hI.2
    exact ⟨r, e1, e2, Inv_mono eE c σ hI⟩
  · intro c σ x1 hc hI
    obtain ⟨r, e1, e2⟩ := s_depositOf (x1 := x1) hI.1 hI.2
    exact ⟨r, e1, e2, Inv_mono eE c σ hI⟩
  · intro c σ hc hI
    refine ⟨gI σ 6, rfl, ?_, Inv_mono eE c σ hI⟩
    show some (gI σ 31) = some (gI σ 6)
    rw [hI.1.1.2.2.2.2.2.2.1]
  · intro c σ hc hI
    exact ok_of (F := TL_root) (G := MD_root) (K' := 0) (L' := 0) hc hI (by omega) (by omega) (fun μ ν τ hC hG => s_root hC hG)
theorem lt6 {i : Nat} (h : i < 6) : i = 0 ∨ i = 1 ∨ i = 2 ∨ i = 3 ∨ i = 4 ∨ i = 5 := by omega
theorem inv0 (eE : Nat × Nat) (a0 a1 a2 a3 a4 a5 : Nat) (hnd : [a0, a1, a2, a3, a4, a5].Nodup) : Inv eE 0 (st0 a0 a1 a2 a3 a4 a5 eE.1) := by
  have hne : (a0 ≠ a1 ∧ a0 ≠ a2 ∧ a0 ≠ a3 ∧ a0 ≠ a4 ∧ a0 ≠ a5) ∧ (a1 ≠ a2 ∧ a1 ≠ a3 ∧ a1 ≠ a4 ∧ a1 ≠ a5) ∧ (a2 ≠ a3 ∧ a2 ≠ a4 ∧ a2 ≠ a5) ∧ (a3 ≠ a4 ∧ a3 ≠ a5) ∧ a4 ≠ a5 := by
    simp only [List.nodup_cons, List.mem_cons, List.not_mem_nil, or_false, not_or] at hnd
    obtain ⟨h0, h1, h2, h3, h4, _⟩ := hnd
    exact ⟨h0, h1, h2, h3, h4⟩
  obtain ⟨⟨n01, n02, n03, n04, n05⟩, ⟨n12, n13, n14, n15⟩, ⟨n23, n24, n25⟩, ⟨n34, n35⟩, n45⟩ := hne
  have eN : nO (st0 a0 a1 a2 a3 a4 a5 eE.1) = 0 := by
    show (0 : Int32).toNatClampNeg = 0
    decide
  have eM : nD (st0 a0 a1 a2 a3 a4 a5 eE.1) = 0 := by
    show (0 : Int32).toNatClampNeg = 0
    decide
  have q0 : gR (st0 a0 a1 a2 a3 a4 a5 eE.1) 0 0 = some a0 := rfl
  have q1 : gR (st0 a0 a1 a2 a3 a4 a5 eE.1) 0 1 = some a1 := rfl
  have q2 : gR (st0 a0 a1 a2 a3 a4 a5 eE.1) 0 2 = some a2 := rfl
  have q3 : gR (st0 a0 a1 a2 a3 a4 a5 eE.1) 0 3 = some a3 := rfl
  have q4 : gR (st0 a0 a1 a2 a3 a4 a5 eE.1) 0 4 = some a4 := rfl
  have q5 : gR (st0 a0 a1 a2 a3 a4 a5 eE.1) 0 5 = some a5 := rfl
  have p0 : aq (st0 a0 a1 a2 a3 a4 a5 eE.1) 0 = a0 := rfl
  have p1 : aq (st0 a0 a1 a2 a3 a4 a5 eE.1) 1 = a1 := rfl
  have p2 : aq (st0 a0 a1 a2 a3 a4 a5 eE.1) 2 = a2 := rfl
  have p3 : aq (st0 a0 a1 a2 a3 a4 a5 eE.1) 3 = a3 := rfl
  have p4 : aq (st0 a0 a1 a2 a3 a4 a5 eE.1) 4 = a4 := rfl
  have p5 : aq (st0 a0 a1 a2 a3 a4 a5 eE.1) 5 = a5 := rfl
  have pp : ∀ q j, q ≠ a0 → pP (st0 a0 a1 a2 a3 a4 a5 eE.1) q j = if j = 2 then 1 else 0 := fun q j h => if_neg h
  have pp0 : ∀ j, pP (st0 a0 a1 a2 a3 a4 a5 eE.1) a0 j = if j = 0 then 1 else if j = 1 then 1000000 else if j = 2 then 1 else 0 := fun j => if_pos rfl
  have gz : ∀ c i, c ≠ 8 → c ≠ 9 → c ≠ 10 → gA (st0 a0 a1 a2 a3 a4 a5 eE.1) c i = 0 := fun c i h1 h2 h3 => by
    show (if c = 8 then _ else if c = 9 then _ else if c = 10 then _ else fun _ => 0 : Nat → Int32) i = 0
    rw [if_neg h1, if_neg h2, if_neg h3]
  have z0 : (0 : Int32).toNatClampNeg = 0 := by decide
  have acc : ∀ i, i ≠ 0 → gA (st0 a0 a1 a2 a3 a4 a5 eE.1) 8 i = 0 ∧ gA (st0 a0 a1 a2 a3 a4 a5 eE.1) 9 i = 0 ∧ gA (st0 a0 a1 a2 a3 a4 a5 eE.1) 10 i = 0 := fun i h => ⟨by
    show upd (fun _ => 0) (0 : Int32).toNatClampNeg 1 i = 0
    rw [z0, pk_un h], by
    show upd (fun _ => 0) (0 : Int32).toNatClampNeg 1000000 i = 0
    rw [z0, pk_un h], by
    show upd (fun _ => 0) (0 : Int32).toNatClampNeg 1 i = 0
    rw [z0, pk_un h]⟩
  have oth : ∀ i, i ≠ 0 → ∀ a, a ≠ a0 → a ∈ [a0, a1, a2, a3, a4, a5] → gR (st0 a0 a1 a2 a3 a4 a5 eE.1) 0 i = some a → gR (st0 a0 a1 a2 a3 a4 a5 eE.1) 0 i = some (aq (st0 a0 a1 a2 a3 a4 a5 eE.1) i) ∧ (aq (st0 a0 a1 a2 a3 a4 a5 eE.1) i ∈ pL (st0 a0 a1 a2 a3 a4 a5 eE.1) ∧ pK (st0 a0 a1 a2 a3 a4 a5 eE.1) (aq (st0 a0 a1 a2 a3 a4 a5 eE.1) i) = 1) ∧ pP (st0 a0 a1 a2 a3 a4 a5 eE.1) (aq (st0 a0 a1 a2 a3 a4 a5 eE.1) i) 0 = gA (st0 a0 a1 a2 a3 a4 a5 eE.1) 8 i ∧ pP (st0 a0 a1 a2 a3 a4 a5 eE.1) (aq (st0 a0 a1 a2 a3 a4 a5 eE.1) i) 1 = gA (st0 a0 a1 a2 a3 a4 a5 eE.1) 9 i ∧ pP (st0 a0 a1 a2 a3 a4 a5 eE.1) (aq (st0 a0 a1 a2 a3 a4 a5 eE.1) i) 3 = gA (st0 a0 a1 a2 a3 a4 a5 eE.1) 11 i ∧ pP (st0 a0 a1 a2 a3 a4 a5 eE.1) (aq (st0 a0 a1 a2 a3 a4 a5 eE.1) i) 2 = (if gA (st0 a0 a1 a2 a3 a4 a5 eE.1) 8 i = 0 then 1 else gA (st0 a0 a1 a2 a3 a4 a5 eE.1) 10 i) := fun i hi a ha hmem hr => by
    have e : aq (st0 a0 a1 a2 a3 a4 a5 eE.1) i = a := by
      unfold aq
      rw [hr]
      rfl
    obtain ⟨g1, g2, g3⟩ := acc i hi
    rw [e, pp a 0 ha, pp a 1 ha, pp a 2 ha, pp a 3 ha, g1, g2, gz 11 i (by decide) (by decide) (by decide)]
    exact ⟨hr, ⟨hmem, rfl⟩, rfl, rfl, rfl, rfl⟩
  refine ⟨⟨⟨rfl, rfl, rfl, rfl, rfl, rfl, rfl, rfl, rfl, rfl, rfl⟩, ⟨fun i hi => ?_, fun i j hi hj e => ?_⟩, fun i _ => ⟨rfl, rfl, rfl⟩, ⟨?_, fun j hj => ?_, fun i j hi => ?_⟩, ⟨?_, fun j hj => ?_, fun i j hi => ?_⟩, ⟨fun _ => by show (1 : Nat) ≠ 0; decide, fun _ => rfl⟩, QM.refl _, QT.refl _⟩, ⟨Or.inl rfl, ⟨0, by decide, rfl⟩, ⟨1000000, by decide, by decide, by show (1000000 : Int32) = nI 1000000; decide⟩, Or.inl rfl⟩, fun i hi => ?_, fun i hi => ?_, fun a c ha hc => rfl, ⟨?_, ?_, fun j hj => ?_, fun i j _ hj => ?_, 0, Nat.le_refl _, rfl, fun j hj => ?_⟩, ⟨?_, ?_, fun j hj => ?_, fun i j _ hj => ?_, 0, Nat.le_refl _, rfl, fun j hj => ?_⟩⟩
  · rcases lt6 hi with rfl | rfl | rfl | rfl | rfl | rfl
    · rw [p0, pp0, pp0, pp0, pp0]
      exact ⟨q0, ⟨List.mem_cons_self, rfl⟩, rfl, rfl, rfl, rfl⟩
    · exact oth 1 (by decide) a1 (Ne.symm n01) (by simp) q1
    · exact oth 2 (by decide) a2 (Ne.symm n02) (by simp) q2
    · exact oth 3 (by decide) a3 (Ne.symm n03) (by simp) q3
    · exact oth 4 (by decide) a4 (Ne.symm n04) (by simp) q4
    · exact oth 5 (by decide) a5 (Ne.symm n05) (by simp) q5
  · rcases lt6 hi with rfl | rfl | rfl | rfl | rfl | rfl <;> rcases lt6 hj with rfl | rfl | rfl | rfl | rfl | rfl <;> simp only [p0, p1, p2, p3, p4, p5] at e <;> omega
  · rw [eN]
    exact Or.inl ⟨rfl, rfl⟩
  · rw [eN] at hj
    exact absurd hj (Nat.not_lt_zero _)
  · rw [eN] at hi
    exact absurd hi (Nat.not_lt_zero _)
  · rw [eM]
    exact Or.inl ⟨rfl, rfl⟩
  · rw [eM] at hj
    exact absurd hj (Nat.not_lt_zero _)
  · rw [eM] at hi
    exact absurd hi (Nat.not_lt_zero _)
  · refine ⟨?_, ?_, 0, by decide, gz 11 i (by decide) (by decide) (by decide)⟩
    · by_cases c : i = 0
      · rw [c]
        exact Or.inr rfl
      · exact Or.inl (acc i c).1
    · by_cases c : i = 0
      · rw [c]
        show Ab _ (1000000 : Int32)
        rw [show (1000000 : Int32) = nI 1000000 by decide]
        exact Ab_nI (by omega) (by decide)
      · rw [(acc i c).2.1]
        exact Ab_0
  · rw [gz 12 i (by decide) (by decide) (by decide), gz 13 i (by decide) (by decide) (by decide)]
    exact ⟨Ab_0, 0, by decide, by decide⟩
  · rw [eN]
    rfl
  · rw [eN]
    decide
  · rw [eN] at hj
    exact absurd hj (Nat.not_lt_zero _)
  · rw [eN] at hj
    exact absurd hj (Nat.not_lt_zero _)
  · rw [eN] at hj
    exact absurd hj (Nat.not_lt_zero _)
  · rw [eM]
    rfl
  · rw [eM]
    decide
  · rw [eM] at hj
    exact absurd hj (Nat.not_lt_zero _)
  · rw [eM] at hj
    exact absurd hj (Nat.not_lt_zero _)
  · rw [eM] at hj
    exact absurd hj (Nat.not_lt_zero _)
end ALL
