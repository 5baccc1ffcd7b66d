section STSIMP
variable {σ : ST}
theorem gI_sI (j : Nat) (v : Int32) (i : Nat) : gI (sI σ j v) i = if i = j then v else gI σ i := rfl
theorem gL_sI (j : Nat) (v : Int32) (i : Nat) : gL (sI σ j v) i = gL σ i := rfl
theorem gA_sI (j : Nat) (v : Int32) (b i : Nat) : gA (sI σ j v) b i = gA σ b i := rfl
theorem gV_sI (j : Nat) (v : Int32) (i : Nat) : gV (sI σ j v) i = gV σ i := rfl
theorem gR_sI (j : Nat) (v : Int32) (b i : Nat) : gR (sI σ j v) b i = gR σ b i := rfl
theorem pL_sI (j : Nat) (v : Int32) : pL (sI σ j v)  = pL σ := rfl
theorem pK_sI (j : Nat) (v : Int32) (a : Nat) : pK (sI σ j v) a = pK σ a := rfl
theorem pP_sI (j : Nat) (v : Int32) (a i : Nat) : pP (sI σ j v) a i = pP σ a i := rfl
theorem pC_sI (j : Nat) (v : Int32) (a : Nat) : pC (sI σ j v) a = pC σ a := rfl
theorem pR_sI (j : Nat) (v : Int32) (a i : Nat) : pR (sI σ j v) a i = pR σ a i := rfl
theorem gE_sI (j : Nat) (v : Int32) (i : Nat) : gE (sI σ j v) i = gE σ i := rfl
theorem gI_sL (j : Nat) (v : Int64) (i : Nat) : gI (sL σ j v) i = gI σ i := rfl
theorem gL_sL (j : Nat) (v : Int64) (i : Nat) : gL (sL σ j v) i = if i = j then v else gL σ i := rfl
theorem gA_sL (j : Nat) (v : Int64) (b i : Nat) : gA (sL σ j v) b i = gA σ b i := rfl
theorem gV_sL (j : Nat) (v : Int64) (i : Nat) : gV (sL σ j v) i = gV σ i := rfl
theorem gR_sL (j : Nat) (v : Int64) (b i : Nat) : gR (sL σ j v) b i = gR σ b i := rfl
theorem pL_sL (j : Nat) (v : Int64) : pL (sL σ j v)  = pL σ := rfl
theorem pK_sL (j : Nat) (v : Int64) (a : Nat) : pK (sL σ j v) a = pK σ a := rfl
theorem pP_sL (j : Nat) (v : Int64) (a i : Nat) : pP (sL σ j v) a i = pP σ a i := rfl
theorem pC_sL (j : Nat) (v : Int64) (a : Nat) : pC (sL σ j v) a = pC σ a := rfl
theorem pR_sL (j : Nat) (v : Int64) (a i : Nat) : pR (sL σ j v) a i = pR σ a i := rfl
theorem gE_sL (j : Nat) (v : Int64) (i : Nat) : gE (sL σ j v) i = gE σ i := rfl
theorem gI_sA (c j : Nat) (v : Int32) (i : Nat) : gI (sA σ c j v) i = gI σ i := rfl
theorem gL_sA (c j : Nat) (v : Int32) (i : Nat) : gL (sA σ c j v) i = gL σ i := rfl
theorem gA_sA (c j : Nat) (v : Int32) (b i : Nat) : gA (sA σ c j v) b i = if b = c then (if i = j then v else gA σ b i) else gA σ b i := by
  show va_up (α := Nat → Int32) _ c _ b i = _
  unfold va_up
  by_cases h : b = c
  · subst h
    rw [if_pos rfl, if_pos rfl]
    rfl
  · rw [if_neg h, if_neg h]
    rfl
theorem gV_sA (c j : Nat) (v : Int32) (i : Nat) : gV (sA σ c j v) i = gV σ i := rfl
theorem gR_sA (c j : Nat) (v : Int32) (b i : Nat) : gR (sA σ c j v) b i = gR σ b i := rfl
theorem pL_sA (c j : Nat) (v : Int32) : pL (sA σ c j v)  = pL σ := rfl
theorem pK_sA (c j : Nat) (v : Int32) (a : Nat) : pK (sA σ c j v) a = pK σ a := rfl
theorem pP_sA (c j : Nat) (v : Int32) (a i : Nat) : pP (sA σ c j v) a i = pP σ a i := rfl
theorem pC_sA (c j : Nat) (v : Int32) (a : Nat) : pC (sA σ c j v) a = pC σ a := rfl
theorem pR_sA (c j : Nat) (v : Int32) (a i : Nat) : pR (sA σ c j v) a i = pR σ a i := rfl
theorem gE_sA (c j : Nat) (v : Int32) (i : Nat) : gE (sA σ c j v) i = gE σ i := rfl
theorem gI_sW (c : Nat) (f : Nat → Int32) (i : Nat) : gI (sW σ c f) i = gI σ i := rfl
theorem gL_sW (c : Nat) (f : Nat → Int32) (i : Nat) : gL (sW σ c f) i = gL σ i := rfl
theorem gA_sW (c : Nat) (f : Nat → Int32) (b i : Nat) : gA (sW σ c f) b i = if b = c then f i else gA σ b i := by
  show va_up (α := Nat → Int32) _ c _ b i = _
  unfold va_up
  by_cases h : b = c
  · rw [if_pos h, if_pos h]
  · rw [if_neg h, if_neg h]
    rfl
theorem gV_sW (c : Nat) (f : Nat → Int32) (i : Nat) : gV (sW σ c f) i = gV σ i := rfl
theorem gR_sW (c : Nat) (f : Nat → Int32) (b i : Nat) : gR (sW σ c f) b i = gR σ b i := rfl
theorem pL_sW (c : Nat) (f : Nat → Int32) : pL (sW σ c f)  = pL σ := rfl
theorem pK_sW (c : Nat) (f : Nat → Int32) (a : Nat) : pK (sW σ c f) a = pK σ a := rfl
theorem pP_sW (c : Nat) (f : Nat → Int32) (a i : Nat) : pP (sW σ c f) a i = pP σ a i := rfl
theorem pC_sW (c : Nat) (f : Nat → Int32) (a : Nat) : pC (sW σ c f) a = pC σ a := rfl
theorem pR_sW (c : Nat) (f : Nat → Int32) (a i : Nat) : pR (sW σ c f) a i = pR σ a i := rfl
theorem gE_sW (c : Nat) (f : Nat → Int32) (i : Nat) : gE (sW σ c f) i = gE σ i := rfl
theorem gI_sV (j : Nat) (v : Int64) (i : Nat) : gI (sV σ j v) i = gI σ i := rfl
theorem gL_sV (j : Nat) (v : Int64) (i : Nat) : gL (sV σ j v) i = gL σ i := rfl
theorem gA_sV (j : Nat) (v : Int64) (b i : Nat) : gA (sV σ j v) b i = gA σ b i := rfl
theorem gV_sV (j : Nat) (v : Int64) (i : Nat) : gV (sV σ j v) i = if i = j then v else gV σ i := rfl
theorem gR_sV (j : Nat) (v : Int64) (b i : Nat) : gR (sV σ j v) b i = gR σ b i := rfl
theorem pL_sV (j : Nat) (v : Int64) : pL (sV σ j v)  = pL σ := rfl
theorem pK_sV (j : Nat) (v : Int64) (a : Nat) : pK (sV σ j v) a = pK σ a := rfl
theorem pP_sV (j : Nat) (v : Int64) (a i : Nat) : pP (sV σ j v) a i = pP σ a i := rfl
theorem pC_sV (j : Nat) (v : Int64) (a : Nat) : pC (sV σ j v) a = pC σ a := rfl
theorem pR_sV (j : Nat) (v : Int64) (a i : Nat) : pR (sV σ j v) a i = pR σ a i := rfl
theorem gE_sV (j : Nat) (v : Int64) (i : Nat) : gE (sV σ j v) i = gE σ i := rfl
theorem gI_sR (c j : Nat) (v : Option Nat) (i : Nat) : gI (sR σ c j v) i = gI σ i := rfl
theorem gL_sR (c j : Nat) (v : Option Nat) (i : Nat) : gL (sR σ c j v) i = gL σ i := rfl
theorem gA_sR (c j : Nat) (v : Option Nat) (b i : Nat) : gA (sR σ c j v) b i = gA σ b i := rfl
theorem gV_sR (c j : Nat) (v : Option Nat) (i : Nat) : gV (sR σ c j v) i = gV σ i := rfl
theorem gR_sR (c j : Nat) (v : Option Nat) (b i : Nat) : gR (sR σ c j v) b i = if b = c then (if i = j then v else gR σ b i) else gR σ b i := by
  show va_up (α := Nat → Option Nat) _ c _ b i = _
  unfold va_up
  by_cases h : b = c
  · subst h
    rw [if_pos rfl, if_pos rfl]
    rfl
  · rw [if_neg h, if_neg h]
    rfl
theorem pL_sR (c j : Nat) (v : Option Nat) : pL (sR σ c j v)  = pL σ := rfl
theorem pK_sR (c j : Nat) (v : Option Nat) (a : Nat) : pK (sR σ c j v) a = pK σ a := rfl
theorem pP_sR (c j : Nat) (v : Option Nat) (a i : Nat) : pP (sR σ c j v) a i = pP σ a i := rfl
theorem pC_sR (c j : Nat) (v : Option Nat) (a : Nat) : pC (sR σ c j v) a = pC σ a := rfl
theorem pR_sR (c j : Nat) (v : Option Nat) (a i : Nat) : pR (sR σ c j v) a i = pR σ a i := rfl
theorem gE_sR (c j : Nat) (v : Option Nat) (i : Nat) : gE (sR σ c j v) i = gE σ i := rfl
theorem gI_sP (q j : Nat) (v : Int32) (i : Nat) : gI (sP σ q j v) i = gI σ i := rfl
theorem gL_sP (q j : Nat) (v : Int32) (i : Nat) : gL (sP σ q j v) i = gL σ i := rfl
theorem gA_sP (q j : Nat) (v : Int32) (b i : Nat) : gA (sP σ q j v) b i = gA σ b i := rfl
theorem gV_sP (q j : Nat) (v : Int32) (i : Nat) : gV (sP σ q j v) i = gV σ i := rfl
theorem gR_sP (q j : Nat) (v : Int32) (b i : Nat) : gR (sP σ q j v) b i = gR σ b i := rfl
theorem pL_sP (q j : Nat) (v : Int32) : pL (sP σ q j v)  = pL σ := rfl
theorem pK_sP (q j : Nat) (v : Int32) (a : Nat) : pK (sP σ q j v) a = pK σ a := rfl
theorem pP_sP (q j : Nat) (v : Int32) (a i : Nat) : pP (sP σ q j v) a i = if a = q then (if i = j then v else pP σ a i) else pP σ a i := by
  show va_up (α := Nat → Int32) _ q _ a i = _
  unfold va_up
  by_cases h : a = q
  · subst h
    rw [if_pos rfl, if_pos rfl]
    rfl
  · rw [if_neg h, if_neg h]
    rfl
theorem pC_sP (q j : Nat) (v : Int32) (a : Nat) : pC (sP σ q j v) a = pC σ a := rfl
theorem pR_sP (q j : Nat) (v : Int32) (a i : Nat) : pR (sP σ q j v) a i = pR σ a i := rfl
theorem gE_sP (q j : Nat) (v : Int32) (i : Nat) : gE (sP σ q j v) i = gE σ i := rfl
theorem gI_sF (q : Nat) (f : Nat → Option Nat) (i : Nat) : gI (sF σ q f) i = gI σ i := rfl
theorem gL_sF (q : Nat) (f : Nat → Option Nat) (i : Nat) : gL (sF σ q f) i = gL σ i := rfl
theorem gA_sF (q : Nat) (f : Nat → Option Nat) (b i : Nat) : gA (sF σ q f) b i = gA σ b i := rfl
theorem gV_sF (q : Nat) (f : Nat → Option Nat) (i : Nat) : gV (sF σ q f) i = gV σ i := rfl
theorem gR_sF (q : Nat) (f : Nat → Option Nat) (b i : Nat) : gR (sF σ q f) b i = gR σ b i := rfl
theorem pL_sF (q : Nat) (f : Nat → Option Nat) : pL (sF σ q f)  = pL σ := rfl
theorem pK_sF (q : Nat) (f : Nat → Option Nat) (a : Nat) : pK (sF σ q f) a = pK σ a := rfl
theorem pP_sF (q : Nat) (f : Nat → Option Nat) (a i : Nat) : pP (sF σ q f) a i = pP σ a i := rfl
theorem pC_sF (q : Nat) (f : Nat → Option Nat) (a : Nat) : pC (sF σ q f) a = pC σ a := rfl
theorem pR_sF (q : Nat) (f : Nat → Option Nat) (a i : Nat) : pR (sF σ q f) a i = if a = q then f i else pR σ a i := by
  show va_up (α := Nat → Option Nat) _ q _ a i = _
  unfold va_up
  by_cases h : a = q
  · rw [if_pos h, if_pos h]
  · rw [if_neg h, if_neg h]
    rfl
theorem gE_sF (q : Nat) (f : Nat → Option Nat) (i : Nat) : gE (sF σ q f) i = gE σ i := rfl
theorem gI_sQ (q j : Nat) (v : Option Nat) (i : Nat) : gI (sQ σ q j v) i = gI σ i := rfl
theorem gL_sQ (q j : Nat) (v : Option Nat) (i : Nat) : gL (sQ σ q j v) i = gL σ i := rfl
theorem gA_sQ (q j : Nat) (v : Option Nat) (b i : Nat) : gA (sQ σ q j v) b i = gA σ b i := rfl
theorem gV_sQ (q j : Nat) (v : Option Nat) (i : Nat) : gV (sQ σ q j v) i = gV σ i := rfl
theorem gR_sQ (q j : Nat) (v : Option Nat) (b i : Nat) : gR (sQ σ q j v) b i = gR σ b i := rfl
theorem pL_sQ (q j : Nat) (v : Option Nat) : pL (sQ σ q j v)  = pL σ := rfl
theorem pK_sQ (q j : Nat) (v : Option Nat) (a : Nat) : pK (sQ σ q j v) a = pK σ a := rfl
theorem pP_sQ (q j : Nat) (v : Option Nat) (a i : Nat) : pP (sQ σ q j v) a i = pP σ a i := rfl
theorem pC_sQ (q j : Nat) (v : Option Nat) (a : Nat) : pC (sQ σ q j v) a = pC σ a := rfl
theorem pR_sQ (q j : Nat) (v : Option Nat) (a i : Nat) : pR (sQ σ q j v) a i = if a = q then (if i = j then v else pR σ a i) else pR σ a i := by
  show va_up (α := Nat → Option Nat) _ q (va_up (pR σ q) j v) a i = _
  unfold va_up
  by_cases h : a = q
  · subst h
    rw [if_pos rfl, if_pos rfl]
  · rw [if_neg h, if_neg h]
    rfl
theorem gE_sQ (q j : Nat) (v : Option Nat) (i : Nat) : gE (sQ σ q j v) i = gE σ i := rfl
theorem gI_sE (j v : Nat) (i : Nat) : gI (sE σ j v) i = gI σ i := rfl
theorem gL_sE (j v : Nat) (i : Nat) : gL (sE σ j v) i = gL σ i := rfl
theorem gA_sE (j v : Nat) (b i : Nat) : gA (sE σ j v) b i = gA σ b i := rfl
theorem gV_sE (j v : Nat) (i : Nat) : gV (sE σ j v) i = gV σ i := rfl
theorem gR_sE (j v : Nat) (b i : Nat) : gR (sE σ j v) b i = gR σ b i := rfl
theorem pL_sE (j v : Nat) : pL (sE σ j v)  = pL σ := rfl
theorem pK_sE (j v : Nat) (a : Nat) : pK (sE σ j v) a = pK σ a := rfl
theorem pP_sE (j v : Nat) (a i : Nat) : pP (sE σ j v) a i = pP σ a i := rfl
theorem pC_sE (j v : Nat) (a : Nat) : pC (sE σ j v) a = pC σ a := rfl
theorem pR_sE (j v : Nat) (a i : Nat) : pR (sE σ j v) a i = pR σ a i := rfl
theorem gE_sE (j v : Nat) (i : Nat) : gE (sE σ j v) i = if i = j then v else gE σ i := rfl
theorem gd_ok {c : Prop} [Decidable c] {α : Type} {x : Option α} (h : c) : (if ¬ c then none else x) = x := if_neg (not_not_intro h)
end STSIMP
def mkOffer (x1 x2 x3 x4 x5 : Int32) (q : Nat) (σ : ST) : ST := sP (sP (sP (sP (sP (sP (sI σ 7 (gI σ 7 + 1)) q 0 (gI σ 7 + 1)) q 1 x1) q 2 x2) q 3 x3) q 4 x4) q 5 x5
theorem ST_addOffer_ok {x1 x2 x3 x4 x5 : Int32} {q : Nat} {σ : ST} (h : q ∈ pL σ ∧ pK σ q = 2) : ST_addOffer x1 x2 x3 x4 x5 q σ = some (q, mkOffer x1 x2 x3 x4 x5 q σ) := by
  unfold ST_addOffer mkOffer
  simp only [nmS, bd1, OF_init, gI_sI, gL_sI, gA_sI, gV_sI, gR_sI, pL_sI, pK_sI, pP_sI, pC_sI, pR_sI, gE_sI, gI_sL, gL_sL, gA_sL, gV_sL, gR_sL, pL_sL, pK_sL, pP_sL, pC_sL, pR_sL, gE_sL, gI_sA, gL_sA, gA_sA, gV_sA, gR_sA, pL_sA, pK_sA, pP_sA, pC_sA, pR_sA, gE_sA, gI_sW, gL_sW, gA_sW, gV_sW, gR_sW, pL_sW, pK_sW, pP_sW, pC_sW, pR_sW, gE_sW, gI_sV, gL_sV, gA_sV, gV_sV, gR_sV, pL_sV, pK_sV, pP_sV, pC_sV, pR_sV, gE_sV, gI_sR, gL_sR, gA_sR, gV_sR, gR_sR, pL_sR, pK_sR, pP_sR, pC_sR, pR_sR, gE_sR, gI_sP, gL_sP, gA_sP, gV_sP, gR_sP, pL_sP, pK_sP, pP_sP, pC_sP, pR_sP, gE_sP, gI_sF, gL_sF, gA_sF, gV_sF, gR_sF, pL_sF, pK_sF, pP_sF, pC_sF, pR_sF, gE_sF, gI_sQ, gL_sQ, gA_sQ, gV_sQ, gR_sQ, pL_sQ, pK_sQ, pP_sQ, pC_sQ, pR_sQ, gE_sQ, gI_sE, gL_sE, gA_sE, gV_sE, gR_sE, pL_sE, pK_sE, pP_sE, pC_sE, pR_sE, gE_sE, h.1, h.2, and_self, not_true_eq_false, if_false, if_true]
/-- what addOffer leaves -/
def AddOfferR (z : Nat) (x1 x2 x3 x4 x5 : Int32) (n : Nat) (σ σ' : ST) : Prop := ∃ (q : Nat) (τ : ST), q ∉ pL σ ∧ τ = mkOffer x1 x2 x3 x4 x5 q (sN σ q 2 (fun _ => 0) 0 (fun _ => none)) ∧ AddR z 0 18 q n (sI τ 17 (gI τ 17 + 1)) σ'
theorem LOk_mkOffer {x1 x2 x3 x4 x5 : Int32} {q n : Nat} {σ : ST} {eE : Nat × Nat} (hq : q ∉ pL σ) (h : LOk 0 2 eE σ n) : LOk 0 2 eE (mkOffer x1 x2 x3 x4 x5 q (sN σ q 2 (fun _ => 0) 0 (fun _ => none))) n := by
  rcases h with h | ⟨h1, h2, h3, h4, h5⟩
  · exact Or.inl h
  · have hne : gE σ 0 ≠ q := fun z => hq (z ▸ h1)
    obtain ⟨f1, f2, f3, f4⟩ := sN_ne (σ := σ) (kd := 2) (c := 0) (p := fun _ => 0) (f := fun _ => none) hne
    refine Or.inr ⟨List.mem_append_left _ h1, f1.trans h2, by show n ≤ pC (sN σ q 2 (fun _ => 0) 0 (fun _ => none)) (gE σ 0); rw [f3]; exact h3, by show pC (sN σ q 2 (fun _ => 0) 0 (fun _ => none)) (gE σ 0) = 10 ∨ pC (sN σ q 2 (fun _ => 0) 0 (fun _ => none)) (gE σ 0) = 15 ∧ n < 15; rw [f3]; exact h4, ?_⟩
    unfold allIn
    apply List.all_eq_true.mpr
    intro i hi
    have hi2 := List.mem_range.mp hi
    have e1 : pR (mkOffer x1 x2 x3 x4 x5 q (sN σ q 2 (fun _ => 0) 0 (fun _ => none))) (gE σ 0) = pR σ (gE σ 0) := f4
    show (match pR (mkOffer x1 x2 x3 x4 x5 q (sN σ q 2 (fun _ => 0) 0 (fun _ => none))) (gE σ 0) (0 + i) with
      | none => true
      | some y => decide (y ∈ pL σ ++ [q] ∧ pK (mkOffer x1 x2 x3 x4 x5 q (sN σ q 2 (fun _ => 0) 0 (fun _ => none))) y = 2)) = true
    rw [e1]
    cases hy : pR σ (gE σ 0) (0 + i) with
    | none => rfl
    | some y =>
      have hm := allIn_at h5 i hi2 y hy
      have hyq : y ≠ q := fun z => hq (z ▸ hm.1)
      exact decide_eq_true ⟨List.mem_append_left _ hm.1, (sN_ne (σ := σ) (kd := 2) (c := 0) (p := fun _ => 0) (f := fun _ => none) hyq).1.trans hm.2⟩
set_option maxRecDepth 100000 in
set_option maxHeartbeats 4000000 in
theorem m_ST_addOffer (l : Launch) (D : va_G) (ad : Nat → Nat) (cs : Nat → ClassId) (eE : Nat × Nat) (x1 x2 x3 x4 x5 : Int32) (n : Nat) (σ : ST) (hs : gI σ 18 = nI n) (hn : n ≤ 14) (hL : LOk 0 2 eE σ n) : MS l y_ST_addOffer (Cond.code y_ST_addOffer b_ST_addOffer 7 r_ST_addOffer :: BIG) 7 157 2 21 (wfm ad cs) D (ttf cs) eE [.ref (ad 1), .int x1, .int x2, .int x3, .int x4, .int x5] σ (fun v σ' => v = none ∧ AddOfferR eE.1 x1 x2 x3 x4 x5 n σ σ') := by
  refine MS.of (cc := b_ST_addOffer) (maxL := 7) (ret := r_ST_addOffer) (by decide) rfl (Nat.le_of_ble_eq_true rfl) (loc := [(0, .ref (ad 1)), (1, .int x1), (2, .int x2), (3, .int x3), (4, .int x4), (5, .int x5)]) rfl (fun X C Rt => ?_)
  refine j_new (ty := ty_OF) (T := T_OF) (Cn := "TollLedger$Offer") (N := 6) (ci := 7) (fs := [.int 0, .int 0, .int 0, .int 0, .int 0, .int 0]) C (fun w h => List.mem_cons_of_mem _ (in_OF w h)) tk_OF (List.mem_cons_of_mem _ wd_2_72) (List.mem_cons_of_mem _ wd_3_6) (List.mem_cons_of_mem _ wd_1_16) rfl (by decide +kernel) (by decide) (by decide) d_ST_addOffer_0 (fun q hq => ?_)
  have hqL : q ∉ pL σ := fr_pool hq
  refine ⟨sN σ q 2 (fun _ => 0) 0 (fun _ => none), by rw [sN_wf hqL, sN_pf2]; rfl, ?_⟩
  have hin : q ∈ pL (sN σ q 2 (fun _ => 0) 0 (fun _ => none)) ∧ pK (sN σ q 2 (fun _ => 0) 0 (fun _ => none)) q = 2 := ⟨List.mem_append_right _ List.mem_cons_self, (sN_eq (σ := σ) (q := q) (kd := 2) (c := 0) (p := fun _ => 0) (f := fun _ => none)).1⟩
  refine w_ST_addOffer_e C Rt ?_ x1 x2 x3 x4 x5 q _ (ST_addOffer_ok hin)
  intro y τ hy
  obtain ⟨rfl, rfl⟩ := Prod.mk.inj hy
  refine j_callV (ci := 9) (Cn := "java/util/ArrayList") (T := T_AL) (N := 3) C [.ref y] [] (m_AL_add_OL _ _ _ _ _ y n _ hin hs hn (LOk_mkOffer hqL hL)) (gdV wd_3_46 wd_3_47 wd_3_48 wd_1_6 wc_AL_add) hy_AL_add rfl ⟨6, rfl⟩ rfl rfl (by decide) (by decide) (by decide) (by decide) (Nat.le_of_ble_eq_true rfl) d_ST_addOffer_66 (fun v σ' h => ?_)
  obtain ⟨rfl, hg⟩ := h
  refine j_pop (va := .int 1) C rfl d_ST_addOffer_69 ?_
  exact j_vret C Rt (by decide) (by decide) d_ST_addOffer_70 ⟨rfl, y, _, hqL, rfl, hg⟩
def POffer (z n : Nat) (res : Int32 × ST × Option (Int32 × Int32 × Int32 × Int32 × Int32)) : Option Value → ST → Prop := fun v σ' => match res.2.2 with
  | none => v = some (.int res.1) ∧ σ' = res.2.1
  | some a => v = some (.int 0) ∧ AddOfferR z a.1 a.2.1 a.2.2.1 a.2.2.2.1 a.2.2.2.2 n res.2.1 σ'
set_option maxRecDepth 100000 in
set_option maxHeartbeats 4000000 in
theorem m_TL_offer (l : Launch) (D : va_G) (ad : Nat → Nat) (cs : Nat → ClassId) (eE : Nat × Nat) (x1 x2 x3 x4 x5 : Int32) (n : Nat) (σ : ST) {res : Int32 × ST × Option (Int32 × Int32 × Int32 × Int32 × Int32)} (hf : TL_offer x1 x2 x3 x4 x5 σ = some res) (hs : res.2.2 ≠ none → gI res.2.1 18 = nI n ∧ n ≤ 14 ∧ LOk 0 2 eE res.2.1 n) : MS l y_TL_offer (Cond.code y_TL_offer b_TL_offer 10 r_TL_offer :: BIG) 8 183 2 21 (wfm ad cs) D (ttf cs) eE [.ref (ad 0), .int x1, .int x2, .int x3, .int x4, .int x5] σ (POffer eE.1 n res) := by
  refine MS.of (cc := b_TL_offer) (maxL := 10) (ret := r_TL_offer) (by decide) rfl (Nat.le_of_ble_eq_true rfl) (loc := [(0, .ref (ad 0)), (1, .int x1), (2, .int x2), (3, .int x3), (4, .int x4), (5, .int x5)]) rfl (fun X C Rt => ?_)
  refine w_TL_offer_e C Rt ?_ ?_ x1 x2 x3 x4 x5 σ hf
  · intro v τ h
    subst h
    exact ⟨rfl, rfl⟩
  · intro y1 y2 y3 y4 y5 τ h
    subst h
    obtain ⟨h1, h2, h3⟩ := hs (fun z => nomatch z)
    refine j_callV (ci := 1) (Cn := "TollLedger$State") (T := T_ST) (N := 6) C [.int y1, .int y2, .int y3, .int y4, .int y5] [] (m_ST_addOffer _ _ _ _ _ y1 y2 y3 y4 y5 n τ h1 h2 h3) (gdV wd_3_2 wd_3_3 wd_3_4 wd_1_2 wc_ST_addOffer) hy_ST_addOffer rfl ⟨1, rfl⟩ rfl rfl (by decide) (by decide) (by decide) (by decide) (Nat.le_of_ble_eq_true rfl) d_TL_offer_285 (fun v σ' h => ?_)
    obtain ⟨rfl, hg⟩ := h
    refine j_iconst (v := 0) C (by decide) d_TL_offer_288 ?_
    exact j_iret C Rt (by decide) (by decide) d_TL_offer_289 ⟨rfl, hg⟩
def mkDeposit (x1 x2 x3 x4 x5 : Int32) (q : Nat) (σ : ST) : ST := sP (sP (sP (sP (sP (sP (sI σ 8 (gI σ 8 + 1)) q 0 (gI σ 8 + 1)) q 1 x1) q 2 x2) q 3 x3) q 4 x4) q 5 x5
theorem ST_addDeposit_ok {x1 x2 x3 x4 x5 : Int32} {q : Nat} {σ : ST} (h : q ∈ pL σ ∧ pK σ q = 3) : ST_addDeposit x1 x2 x3 x4 x5 q σ = some (q, mkDeposit x1 x2 x3 x4 x5 q σ) := by
  unfold ST_addDeposit mkDeposit
  simp only [nmS, bd1, DP_init, gI_sI, gL_sI, gA_sI, gV_sI, gR_sI, pL_sI, pK_sI, pP_sI, pC_sI, pR_sI, gE_sI, gI_sL, gL_sL, gA_sL, gV_sL, gR_sL, pL_sL, pK_sL, pP_sL, pC_sL, pR_sL, gE_sL, gI_sA, gL_sA, gA_sA, gV_sA, gR_sA, pL_sA, pK_sA, pP_sA, pC_sA, pR_sA, gE_sA, gI_sW, gL_sW, gA_sW, gV_sW, gR_sW, pL_sW, pK_sW, pP_sW, pC_sW, pR_sW, gE_sW, gI_sV, gL_sV, gA_sV, gV_sV, gR_sV, pL_sV, pK_sV, pP_sV, pC_sV, pR_sV, gE_sV, gI_sR, gL_sR, gA_sR, gV_sR, gR_sR, pL_sR, pK_sR, pP_sR, pC_sR, pR_sR, gE_sR, gI_sP, gL_sP, gA_sP, gV_sP, gR_sP, pL_sP, pK_sP, pP_sP, pC_sP, pR_sP, gE_sP, gI_sF, gL_sF, gA_sF, gV_sF, gR_sF, pL_sF, pK_sF, pP_sF, pC_sF, pR_sF, gE_sF, gI_sQ, gL_sQ, gA_sQ, gV_sQ, gR_sQ, pL_sQ, pK_sQ, pP_sQ, pC_sQ, pR_sQ, gE_sQ, gI_sE, gL_sE, gA_sE, gV_sE, gR_sE, pL_sE, pK_sE, pP_sE, pC_sE, pR_sE, gE_sE, h.1, h.2, and_self, not_true_eq_false, if_false, if_true]
/-- what addDeposit leaves -/
def AddDepositR (z : Nat) (x1 x2 x3 x4 x5 : Int32) (n : Nat) (σ σ' : ST) : Prop := ∃ (q : Nat) (τ : ST), q ∉ pL σ ∧ τ = mkDeposit x1 x2 x3 x4 x5 q (sN σ q 3 (fun _ => 0) 0 (fun _ => none)) ∧ AddR z 1 20 q n (sI τ 19 (gI τ 19 + 1)) σ'
theorem LOk_mkDeposit {x1 x2 x3 x4 x5 : Int32} {q n : Nat} {σ : ST} {eE : Nat × Nat} (hq : q ∉ pL σ) (h : LOk 1 3 eE σ n) : LOk 1 3 eE (mkDeposit x1 x2 x3 x4 x5 q (sN σ q 3 (fun _ => 0) 0 (fun _ => none))) n := by
  rcases h with h | ⟨h1, h2, h3, h4, h5⟩
  · exact Or.inl h
  · have hne : gE σ 1 ≠ q := fun z => hq (z ▸ h1)
    obtain ⟨f1, f2, f3, f4⟩ := sN_ne (σ := σ) (kd := 3) (c := 0) (p := fun _ => 0) (f := fun _ => none) hne
    refine Or.inr ⟨List.mem_append_left _ h1, f1.trans h2, by show n ≤ pC (sN σ q 3 (fun _ => 0) 0 (fun _ => none)) (gE σ 1); rw [f3]; exact h3, by show pC (sN σ q 3 (fun _ => 0) 0 (fun _ => none)) (gE σ 1) = 10 ∨ pC (sN σ q 3 (fun _ => 0) 0 (fun _ => none)) (gE σ 1) = 15 ∧ n < 15; rw [f3]; exact h4, ?_⟩
    unfold allIn
    apply List.all_eq_true.mpr
    intro i hi
    have hi2 := List.mem_range.mp hi
    have e1 : pR (mkDeposit x1 x2 x3 x4 x5 q (sN σ q 3 (fun _ => 0) 0 (fun _ => none))) (gE σ 1) = pR σ (gE σ 1) := f4
    show (match pR (mkDeposit x1 x2 x3 x4 x5 q (sN σ q 3 (fun _ => 0) 0 (fun _ => none))) (gE σ 1) (0 + i) with
      | none => true
      | some y => decide (y ∈ pL σ ++ [q] ∧ pK (mkDeposit x1 x2 x3 x4 x5 q (sN σ q 3 (fun _ => 0) 0 (fun _ => none))) y = 3)) = true
    rw [e1]
    cases hy : pR σ (gE σ 1) (0 + i) with
    | none => rfl
    | some y =>
      have hm := allIn_at h5 i hi2 y hy
      have hyq : y ≠ q := fun z => hq (z ▸ hm.1)
      exact decide_eq_true ⟨List.mem_append_left _ hm.1, (sN_ne (σ := σ) (kd := 3) (c := 0) (p := fun _ => 0) (f := fun _ => none) hyq).1.trans hm.2⟩
set_option maxRecDepth 100000 in
set_option maxHeartbeats 4000000 in
theorem m_ST_addDeposit (l : Launch) (D : va_G) (ad : Nat → Nat) (cs : Nat → ClassId) (eE : Nat × Nat) (x1 x2 x3 x4 x5 : Int32) (n : Nat) (σ : ST) (hs : gI σ 20 = nI n) (hn : n ≤ 14) (hL : LOk 1 3 eE σ n) : MS l y_ST_addDeposit (Cond.code y_ST_addDeposit b_ST_addDeposit 7 r_ST_addDeposit :: BIG) 7 157 2 21 (wfm ad cs) D (ttf cs) eE [.ref (ad 1), .int x1, .int x2, .int x3, .int x4, .int x5] σ (fun v σ' => v = none ∧ AddDepositR eE.1 x1 x2 x3 x4 x5 n σ σ') := by
  refine MS.of (cc := b_ST_addDeposit) (maxL := 7) (ret := r_ST_addDeposit) (by decide) rfl (Nat.le_of_ble_eq_true rfl) (loc := [(0, .ref (ad 1)), (1, .int x1), (2, .int x2), (3, .int x3), (4, .int x4), (5, .int x5)]) rfl (fun X C Rt => ?_)
  refine j_new (ty := ty_DP) (T := T_DP) (Cn := "TollLedger$Deposit") (N := 6) (ci := 8) (fs := [.int 0, .int 0, .int 0, .int 0, .int 0, .int 0]) C (fun w h => List.mem_cons_of_mem _ (in_DP w h)) tk_DP (List.mem_cons_of_mem _ wd_2_73) (List.mem_cons_of_mem _ wd_3_117) (List.mem_cons_of_mem _ wd_1_19) rfl (by decide +kernel) (by decide) (by decide) d_ST_addDeposit_0 (fun q hq => ?_)
  have hqL : q ∉ pL σ := fr_pool hq
  refine ⟨sN σ q 3 (fun _ => 0) 0 (fun _ => none), by rw [sN_wf hqL, sN_pf3]; rfl, ?_⟩
  have hin : q ∈ pL (sN σ q 3 (fun _ => 0) 0 (fun _ => none)) ∧ pK (sN σ q 3 (fun _ => 0) 0 (fun _ => none)) q = 3 := ⟨List.mem_append_right _ List.mem_cons_self, (sN_eq (σ := σ) (q := q) (kd := 3) (c := 0) (p := fun _ => 0) (f := fun _ => none)).1⟩
  refine w_ST_addDeposit_e C Rt ?_ x1 x2 x3 x4 x5 q _ (ST_addDeposit_ok hin)
  intro y τ hy
  obtain ⟨rfl, rfl⟩ := Prod.mk.inj hy
  refine j_callV (ci := 9) (Cn := "java/util/ArrayList") (T := T_AL) (N := 3) C [.ref y] [] (m_AL_add_DL _ _ _ _ _ y n _ hin hs hn (LOk_mkDeposit hqL hL)) (gdV wd_3_46 wd_3_47 wd_3_48 wd_1_6 wc_AL_add) hy_AL_add rfl ⟨7, rfl⟩ rfl rfl (by decide) (by decide) (by decide) (by decide) (Nat.le_of_ble_eq_true rfl) d_ST_addDeposit_66 (fun v σ' h => ?_)
  obtain ⟨rfl, hg⟩ := h
  refine j_pop (va := .int 1) C rfl d_ST_addDeposit_69 ?_
  exact j_vret C Rt (by decide) (by decide) d_ST_addDeposit_70 ⟨rfl, y, _, hqL, rfl, hg⟩
def PDeposit (z n : Nat) (res : Int32 × ST × Option (Int32 × Int32 × Int32 × Int32 × Int32)) : Option Value → ST → Prop := fun v σ' => match res.2.2 with
  | none => v = some (.int res.1) ∧ σ' = res.2.1
  | some a => v = some (.int 0) ∧ AddDepositR z a.1 a.2.1 a.2.2.1 a.2.2.2.1 a.2.2.2.2 n res.2.1 σ'
set_option maxRecDepth 100000 in
set_option maxHeartbeats 4000000 in
theorem m_TL_deposit (l : Launch) (D : va_G) (ad : Nat → Nat) (cs : Nat → ClassId) (eE : Nat × Nat) (x1 x2 x3 x4 : Int32) (n : Nat) (σ : ST) {res : Int32 × ST × Option (Int32 × Int32 × Int32 × Int32 × Int32)} (hf : TL_deposit x1 x2 x3 x4 σ = some res) (hs : res.2.2 ≠ none → gI res.2.1 20 = nI n ∧ n ≤ 14 ∧ LOk 1 3 eE res.2.1 n) : MS l y_TL_deposit (Cond.code y_TL_deposit b_TL_deposit 6 r_TL_deposit :: BIG) 8 183 2 21 (wfm ad cs) D (ttf cs) eE [.ref (ad 0), .int x1, .int x2, .int x3, .int x4] σ (PDeposit eE.1 n res) := by
  refine MS.of (cc := b_TL_deposit) (maxL := 6) (ret := r_TL_deposit) (by decide) rfl (Nat.le_of_ble_eq_true rfl) (loc := [(0, .ref (ad 0)), (1, .int x1), (2, .int x2), (3, .int x3), (4, .int x4)]) rfl (fun X C Rt => ?_)
  refine w_TL_deposit_e C Rt ?_ ?_ x1 x2 x3 x4 σ hf
  · intro v τ h
    subst h
    exact ⟨rfl, rfl⟩
  · intro y1 y2 y3 y4 y5 τ h
    subst h
    obtain ⟨h1, h2, h3⟩ := hs (fun z => nomatch z)
    refine j_callV (ci := 1) (Cn := "TollLedger$State") (T := T_ST) (N := 6) C [.int y1, .int y2, .int y3, .int y4, .int y5] [] (m_ST_addDeposit _ _ _ _ _ y1 y2 y3 y4 y5 n τ h1 h2 h3) (gdV wd_3_113 wd_3_114 wd_3_115 wd_1_2 wc_ST_addDeposit) hy_ST_addDeposit rfl ⟨1, rfl⟩ rfl rfl (by decide) (by decide) (by decide) (by decide) (Nat.le_of_ble_eq_true rfl) d_TL_deposit_136 (fun v σ' h => ?_)
    obtain ⟨rfl, hg⟩ := h
    refine j_iconst (v := 0) C (by decide) d_TL_deposit_139 ?_
    exact j_iret C Rt (by decide) (by decide) d_TL_deposit_140 ⟨rfl, hg⟩
