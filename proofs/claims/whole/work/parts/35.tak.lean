section TAK
variable {eE : Nat × Nat} {μ ν σ σ' τ τ' τ0 : ST} {K L : Nat}
/-- what a taking of the reference leaves as it was -/
def FT (τ τ' : ST) : Prop := (∀ j, j ≠ 32 → gI τ' j = gI τ j) ∧ (∀ b i, b < 27 → gA τ' b i = gA τ b i) ∧ τ'.2.2.2.2 = τ.2.2.2.2
theorem FT.refl (τ : ST) : FT τ τ := ⟨fun _ _ => rfl, fun _ _ _ => rfl, rfl⟩
theorem FT.uI {v : Int32} (h : FT τ τ') : FT τ (sI τ' 32 v) := ⟨fun j hj => by rw [gI_sI, if_neg hj]; exact h.1 j hj, h.2.1, h.2.2⟩
theorem FT.uL {i : Nat} {v : Int64} (h : FT τ τ') : FT τ (sL τ' i v) := h
theorem FT.uV {i : Nat} {v : Int64} (h : FT τ τ') : FT τ (sV τ' i v) := h
theorem FT.uA {b i : Nat} {v : Int32} (hb : 27 ≤ b) (h : FT τ τ') : FT τ (sA τ' b i v) := ⟨h.1, fun c j hc => (gA_ne (by omega)).trans (h.2.1 c j hc), h.2.2⟩
theorem FT.eW (h : FT τ τ') : wN τ' = wN τ := by funext j; show (gA τ' 19 j).toNatClampNeg = (gA τ 19 j).toNatClampNeg; rw [h.2.1 19 j (by decide)]
theorem FT.eG (h : FT τ τ') : gN τ' = gN τ := by funext j; show (gA τ' 20 j).toNatClampNeg = (gA τ 20 j).toNatClampNeg; rw [h.2.1 20 j (by decide)]
theorem FT.eOw (h : FT τ τ') : oN τ' = oN τ := by funext j; show (gA τ' 16 j).toNatClampNeg = (gA τ 16 j).toNatClampNeg; rw [h.2.1 16 j (by decide)]
theorem FT.eRa (h : FT τ τ') : rN τ' = rN τ := by funext j; show (gA τ' 11 j).toNatClampNeg = (gA τ 11 j).toNatClampNeg; rw [h.2.1 11 j (by decide)]
theorem FT.eNO (h : FT τ τ') : nO τ' = nO τ := by show (gI τ' 21).toNatClampNeg = (gI τ 21).toNatClampNeg; rw [h.1 21 (by decide)]
theorem FT.eND (h : FT τ τ') : nD τ' = nD τ := by show (gI τ' 23).toNatClampNeg = (gI τ 23).toNatClampNeg; rw [h.1 23 (by decide)]
theorem FT.eOwn (h : FT τ τ') : own τ' = own τ := by
  funext i
  show decide (0 < gA τ' 13 i ∨ 0 < gA τ' 12 i) = decide (0 < gA τ 13 i ∨ 0 < gA τ 12 i)
  rw [h.2.1 13 i (by decide), h.2.1 12 i (by decide)]
theorem FT.eOfO (h : FT τ τ') (a : Nat) : ofO τ' a = ofO τ a := by
  funext i
  show decide (gA τ' 16 i = nI a) = decide (gA τ 16 i = nI a)
  rw [h.2.1 16 i (by decide)]
theorem FT.eOfD (h : FT τ τ') (a : Nat) : ofD τ' a = ofD τ a := by
  funext i
  show decide (gA τ' 22 i = nI a) = decide (gA τ 22 i = nI a)
  rw [h.2.1 22 i (by decide)]
theorem FT.ePcs (h : FT τ τ') (a : Nat) : pcs τ' a = pcs τ a := by
  show cnt (own τ') (12 * a) 12 + cnt (ofO τ' a) 0 (nO τ') + cnt (ofD τ' a) 0 (nD τ') = cnt (own τ) (12 * a) 12 + cnt (ofO τ a) 0 (nO τ) + cnt (ofD τ a) 0 (nD τ)
  rw [h.eOwn, h.eOfO, h.eOfD, h.eNO, h.eND]
theorem FT.eFnd (h : FT τ τ') (a k : Nat) : fnd τ' a k = fnd τ a k := by
  show (if k = 0 then (gA τ' 9 a - nI (100 + 20 * pcs τ' a)).toNatClampNeg else if (k - 1) % 6 = a then 1000000000 else (gA τ' 12 (cel a k)).toNatClampNeg) = (if k = 0 then (gA τ 9 a - nI (100 + 20 * pcs τ a)).toNatClampNeg else if (k - 1) % 6 = a then 1000000000 else (gA τ 12 (cel a k)).toNatClampNeg)
  rw [h.2.1 9 a (by decide), h.2.1 12 _ (by decide), h.ePcs]
theorem FT.eRt (h : FT τ τ') : rt τ' = rt τ := by
  funext k a b
  show (if k = 0 then 0 else if (k - 1) % 6 = a then 0 else if (k - 1) % 6 = b then 0 else rN τ' ((k - 1) % 6)) = (if k = 0 then 0 else if (k - 1) % 6 = a then 0 else if (k - 1) % 6 = b then 0 else rN τ ((k - 1) % 6))
  rw [h.eRa]
theorem FT.ePrc (h : FT τ τ') : prc τ' = prc τ := by
  funext j v
  show (v * wN τ' j + gN τ' j - 1) / gN τ' j = (v * wN τ j + gN τ j - 1) / gN τ j
  rw [h.eW, h.eG]
theorem FT.row {x k a : Int32} {m n : Nat} {b : Nat → Nat} (h : FT τ τ') (hR : Row τ x k a m b n) : Row τ' x k a m b n := by
  have e1 : ∀ i j, ahd τ' i j ↔ ahd τ i j := fun i j => by
    unfold ahd
    rw [h.eW, h.eG]
  have e2 : ∀ j, inB τ' x k a j ↔ inB τ x k a j := fun j => by
    unfold inB
    rw [h.2.1 17 j (by decide), h.2.1 18 j (by decide), h.2.1 16 j (by decide)]
  exact ⟨fun p q h1 h2 => (e1 _ _).mpr (hR.1 p q h1 h2), fun p hp => ⟨(hR.2.1 p hp).1, (e2 _).mpr (hR.2.1 p hp).2⟩, fun j hj hb => hR.2.2.1 j hj ((e2 _).mp hb), hR.2.2.2⟩
theorem core_ft (h : FT τ τ') (hC : Core eE μ ν σ τ) : Core eE μ ν σ τ' := by
  obtain ⟨h1, h2, h3, h4, h5, h6, h7, h8⟩ := hC
  obtain ⟨q1, q3, q5⟩ := h
  have eO : nO τ' = nO τ := by unfold nO; rw [q1 21 (by decide)]
  have eD : nD τ' = nD τ := by unfold nD; rw [q1 23 (by decide)]
  refine ⟨?_, ?_, ?_, ?_, ?_, h6, h7, ⟨fun j hj => (q1 j (by omega)).trans (h8.1 j hj), fun a i ha => (q3 a i (by omega)).trans (h8.2.1 a i ha), q5.trans h8.2.2⟩⟩
  · unfold CS
    rw [q1 25 (by decide), q1 26 (by decide), q1 27 (by decide), q1 28 (by decide), q1 29 (by decide), q1 30 (by decide), q1 31 (by decide), q1 22 (by decide), q1 24 (by decide), q1 21 (by decide), q1 23 (by decide)]
    exact h1
  · unfold CA
    simp only [q3 8 _ (by decide), q3 9 _ (by decide), q3 10 _ (by decide), q3 11 _ (by decide)]
    exact h2
  · unfold CL
    simp only [q3 12 _ (by decide), q3 13 _ (by decide), q3 14 _ (by decide)]
    exact h3
  · unfold CO
    simp only [eO, q3 15 _ (by decide), q3 16 _ (by decide), q3 17 _ (by decide), q3 18 _ (by decide), q3 19 _ (by decide), q3 20 _ (by decide)]
    exact h4
  · unfold CD
    simp only [eD, q3 21 _ (by decide), q3 22 _ (by decide), q3 23 _ (by decide), q3 24 _ (by decide), q3 25 _ (by decide), q3 26 _ (by decide)]
    exact h5
theorem good_ft (h : FT τ τ') (hG : Good K L τ) : Good K L τ' := by
  obtain ⟨h1, h2, h3, h4, h5, h6⟩ := hG
  obtain ⟨q1, q3, q5⟩ := h
  have eO : nO τ' = nO τ := by unfold nO; rw [q1 21 (by decide)]
  have eD : nD τ' = nD τ := by unfold nD; rw [q1 23 (by decide)]
  refine ⟨?_, ?_, ?_, ?_, ?_, ?_⟩
  · unfold GS
    rw [q1 25 (by decide), q1 27 (by decide), q1 28 (by decide), q1 29 (by decide)]
    exact h1
  · unfold GA
    simp only [q3 8 _ (by decide), q3 9 _ (by decide), q3 11 _ (by decide)]
    exact h2
  · unfold GL
    simp only [q3 12 _ (by decide), q3 13 _ (by decide)]
    exact h3
  · unfold GQ
    simp only [q3 14 _ (by decide)]
    exact h4
  · unfold GO
    rw [eO, q1 21 (by decide), q1 22 (by decide)]
    simp only [q3 15 _ (by decide), q3 16 _ (by decide), q3 17 _ (by decide), q3 18 _ (by decide), q3 19 _ (by decide), q3 20 _ (by decide)]
    exact h5
  · unfold GD
    rw [eD, q1 23 (by decide), q1 24 (by decide)]
    simp only [q3 21 _ (by decide), q3 22 _ (by decide), q3 23 _ (by decide), q3 24 _ (by decide)]
    exact h6
theorem ft_price (hG : Good K L τ) (h : FT τ τ') {j v : Nat} (hj : j < nO τ) (hv : v ≤ 1000000) : MD_priceOf (nI j) (nI v) τ' = some (nI (prc τ j v)) := by
  have e := MD_priceOf_eq (good_ft h hG) (j := j) (v := v) (by rw [h.eNO]; exact hj) hv
  rw [h.ePrc] at e
  exact e
theorem ft_cost (hG : Good K L τ) (h : FT τ τ') {v k a b : Nat} (hv : v ≤ 1000000) (hk : k < 13) (ha : a < 6) (hb : b < 6) : MD_costOf (lN v) (nI a) (nI b) (nI k) τ' = some (lN (cst (rt τ k a b) v)) := by
  have e := MD_costOf_eq (good_ft h hG).gr (v := v) hv hk ha hb
  rw [h.eRt] at e
  exact e
theorem ft_funds (hG : Good K L τ) (h : FT τ τ') {a k : Nat} (ha : a < 6) (hk : k < 13) : MD_fundsIn (nI a) (nI k) τ' = some (nI (fnd τ a k)) := by
  have e := MD_fundsIn_eq (good_ft h hG) ha hk
  rw [h.eFnd] at e
  exact e
theorem ft_own (hG : Good K L τ) (h : FT τ τ') {j : Nat} (hj : j < nO τ) : gA τ' 16 j = nI (oN τ j) ∧ oN τ j < 6 := by
  have e := oN_ok hG hj
  exact ⟨(h.2.1 16 j (by decide)).trans e.1, e.2⟩
theorem ft_g (hG : Good K L τ) (h : FT τ τ') {j : Nat} (hj : j < nO τ) : gA τ' 20 j = nI (gN τ j) := (h.2.1 20 j (by decide)).trans (gN_ok hG hj).1
theorem ft_w (hG : Good K L τ) (h : FT τ τ') {j : Nat} (hj : j < nO τ) : gA τ' 19 j = nI (wN τ j) := (h.2.1 19 j (by decide)).trans (wN_ok hG hj).1
/-- the reference's taking stands at s -/
def MP (τ : ST) (f : Nat → Nat) (s : PZ) : Prop := gI τ 32 = nI (zT s) ∧ gL τ 0 = lN (zP s) ∧ gL τ 1 = lN (zC s) ∧ (∀ o, o < 6 → gV τ o = lN (f o - zU s o)) ∧ ∀ j, j < 12 → gA τ 27 j = nI (zK s j) ∧ gA τ 28 j = nI (zA s j) ∧ gA τ 30 j = (if zG s j = true then 1 else 0)
theorem MP.s29 {f : Nat → Nat} {s : PZ} {i : Nat} {v : Int32} (h : MP τ f s) : MP (sA τ 29 i v) f s := ⟨h.1, h.2.1, h.2.2.1, h.2.2.2.1, fun j hj => by
  rw [gA_ne (by decide), gA_ne (by decide), gA_ne (by decide)]
  exact h.2.2.2.2 j hj⟩
theorem MP.s30 {f : Nat → Nat} {s : PZ} {i : Nat} (h : MP τ f s) (hg : zG s i = false) : MP (sA τ 30 i 0) f s := ⟨h.1, h.2.1, h.2.2.1, h.2.2.2.1, fun j hj => by
  rw [gA_ne (by decide), gA_ne (by decide)]
  refine ⟨(h.2.2.2.2 j hj).1, (h.2.2.2.2 j hj).2.1, ?_⟩
  by_cases c : j = i
  · rw [c, gA_eq, hg]
    rfl
  · rw [gA_nj c]
    exact (h.2.2.2.2 j hj).2.2⟩
/-- an offer whose owner has nothing is gone, and no more -/
theorem MP.dead {me x k j : Nat} {f : Nat → Nat} {s : PZ} (hG : Good K L τ) (hj : j < nO τ) (h : MP τ' f s) (hf : f (oN τ j) = 0) (hK : zK s j = 0) (hA : zA s j = 0) : MP (sA τ' 30 j 1) f (stp τ me x k f j 0 s) := by
  have h0 := prc0 hG hj
  have c0 : ∀ r, cst r 0 = 0 := fun r => by unfold cst; omega
  refine ⟨h.1, ?_, ?_, fun o ho => ?_, fun i hi => ?_⟩
  · show gL τ' 0 = lN (zP s + prc τ j 0)
    rw [h0]
    exact h.2.1
  · show gL τ' 1 = lN (zC s + cst (rt τ x me (oN τ j)) (prc τ j 0))
    rw [h0, c0]
    exact h.2.2.1
  · show gV τ' o = lN (f o - va_up (zU s) (oN τ j) (zU s (oN τ j) - cst (rt τ k (oN τ j) me) 0) o)
    rw [c0]
    by_cases c : o = oN τ j
    · rw [c, va_up_self, Nat.sub_zero, ← c]
      exact h.2.2.2.1 o ho
    · rw [va_up_ne _ _ c]
      exact h.2.2.2.1 o ho
  · rw [gA_ne (by decide), gA_ne (by decide)]
    show _ = nI (va_up (zK s) j 0 i) ∧ _ = nI (va_up (zA s) j (prc τ j 0) i) ∧ _ = if va_up (zG s) j _ i = true then 1 else 0
    obtain ⟨a1, a2, a3⟩ := h.2.2.2.2 i hi
    by_cases c : i = j
    · subst c
      rw [va_up_self, va_up_self, va_up_self, gA_eq, h0, if_pos (decide_eq_true (Or.inl hf)), a1, a2, hK, hA]
      exact ⟨rfl, rfl, rfl⟩
    · rw [va_up_ne _ _ c, va_up_ne _ _ c, va_up_ne _ _ c, gA_nj c]
      exact ⟨a1, a2, a3⟩
theorem note_ok {me x k j v : Nat} {f : Nat → Nat} {s : PZ} (hG : Good K L τ) (h : FT τ τ') (hj : j < nO τ) (hm : gI τ 25 = nI me) (hme : me < 6) (hx : x < 13) (hk : k < 13) (hP : MP τ' f s) (hfU : ∀ o, zU s o ≤ f o) (hf : f (oN τ j) ≠ 0) (hz : zK s j = 0 ∧ zA s j = 0 ∧ zG s j = false) (hv : v ≤ gN τ j) (hmv : v ≤ mov τ me k j s) : ∃ τ2, MD_note (nI j) (nI v) (nI x) (nI k) τ' = some τ2 ∧ FT τ τ2 ∧ MP τ2 f (stp τ me x k f j v s) ∧ ∀ i, gA τ2 29 i = gA τ' 29 i := by
  have hn := hG.2.2.2.2.1.2.1
  have h0 := prc0 hG hj
  have c0 : ∀ r, cst r 0 = 0 := fun r => by unfold cst; omega
  obtain ⟨_, g1, g2⟩ := gN_ok hG hj
  obtain ⟨_, w1, w2⟩ := wN_ok hG hj
  obtain ⟨eo, ho⟩ := ft_own hG h hj
  have hpr := prc_le hG hj hv
  unfold MD_note
  by_cases v0 : v = 0
  · subst v0
    rw [if_pos (show nI 0 = 0 by decide)]
    refine ⟨τ', rfl, h, ⟨hP.1, ?_, ?_, fun o ho2 => ?_, fun i hi => ?_⟩, fun _ => rfl⟩
    · show gL τ' 0 = lN (zP s + prc τ j 0)
      rw [h0]
      exact hP.2.1
    · show gL τ' 1 = lN (zC s + cst (rt τ x me (oN τ j)) (prc τ j 0))
      rw [h0, c0]
      exact hP.2.2.1
    · show gV τ' o = lN (f o - va_up (zU s) (oN τ j) (zU s (oN τ j) - cst (rt τ k (oN τ j) me) 0) o)
      rw [c0]
      by_cases c : o = oN τ j
      · rw [c, va_up_self, Nat.sub_zero, ← c]
        exact hP.2.2.2.1 o ho2
      · rw [va_up_ne _ _ c]
        exact hP.2.2.2.1 o ho2
    · show _ = nI (va_up (zK s) j 0 i) ∧ _ = nI (va_up (zA s) j (prc τ j 0) i) ∧ _ = if va_up (zG s) j _ i = true then 1 else 0
      obtain ⟨a1, a2, a3⟩ := hP.2.2.2.2 i hi
      by_cases c : i = j
      · subst c
        rw [va_up_self, va_up_self, va_up_self, h0, if_neg (fun z => by
          rcases of_decide_eq_true z with y | y
          · exact hf y
          · exact y.1 rfl), a1, a2, a3, hz.1, hz.2.1, hz.2.2]
        exact ⟨rfl, rfl, rfl⟩
      · rw [va_up_ne _ _ c, va_up_ne _ _ c, va_up_ne _ _ c]
        exact ⟨a1, a2, a3⟩
  · have hjc : j < 12 := by omega
    have hcv : cst (rt τ k (oN τ j) me) v ≤ zU s (oN τ j) := cst_iff.mpr hmv
    have hfo := hfU (oN τ j)
    rw [if_neg (nI_ne0 (by omega) (by omega))]
    have t1 : FT τ (sA τ' 27 j (nI v)) := h.uA (by decide)
    have t2 : FT τ (sA (sA τ' 27 j (nI v)) 28 j (nI (prc τ j v))) := t1.uA (by decide)
    have q1 := ft_price hG t1 hj (v := v) (by omega)
    have q2 := ft_cost hG t2 (v := v) (k := k) (a := oN τ j) (b := me) (by omega) hk ho hme
    have t3 : FT τ (sV (sA (sA τ' 27 j (nI v)) 28 j (nI (prc τ j v))) (oN τ j) (lN (f (oN τ j) - zU s (oN τ j) + cst (rt τ k (oN τ j) me) v))) := t2
    have t4 : FT τ (sL (sI (sV (sA (sA τ' 27 j (nI v)) 28 j (nI (prc τ j v))) (oN τ j) (lN (f (oN τ j) - zU s (oN τ j) + cst (rt τ k (oN τ j) me) v))) 32 (nI (zT s + v))) 0 (lN (zP s + prc τ j v))) := (t3.uI).uL
    have q3 := ft_cost hG t4 (v := prc τ j v) (k := x) (a := me) (b := oN τ j) (by omega) hx hme ho
    have m25 : gI τ' 25 = nI me := (h.1 25 (by decide)).trans hm
    simp only [nI_clamp (lt31 hjc), if_neg (gin hjc), eo, nmI, nmS, q1, bd1, nI_clamp (lt31 ho), if_neg (gin ho), gI_sA, m25, nI_l (show v < 2 ^ 31 by omega), q2, gV_sA, hP.2.2.2.1 _ ho, lN_add, gI_sV, hP.1, nI_add, gL_sI, gL_sV, gL_sA, hP.2.1, gA_sI, gA_sV, gA_eq, nI_l (show prc τ j v < 2 ^ 31 by omega), gI_sL, gI_sI, reduceIte, Nat.reduceEqDiff, gA_sL, q3, gL_sL, hP.2.2.1, gA_ne (show (20 : Nat) ≠ 28 by decide), gA_ne (show (20 : Nat) ≠ 27 by decide), gA_ne (show (19 : Nat) ≠ 28 by decide), gA_ne (show (19 : Nat) ≠ 27 by decide), ft_g hG h hj, ft_w hG h hj]
    have fin : ∀ (z : Int32), z = (if (v = gN τ j ∨ prc τ j v = wN τ j) then 1 else 0) → FT τ (sA (sL (sL (sI (sV (sA (sA τ' 27 j (nI v)) 28 j (nI (prc τ j v))) (oN τ j) (lN (f (oN τ j) - zU s (oN τ j) + cst (rt τ k (oN τ j) me) v))) 32 (nI (zT s + v))) 0 (lN (zP s + prc τ j v))) 1 (lN (zC s + cst (rt τ x me (oN τ j)) (prc τ j v)))) 30 j z) ∧ MP (sA (sL (sL (sI (sV (sA (sA τ' 27 j (nI v)) 28 j (nI (prc τ j v))) (oN τ j) (lN (f (oN τ j) - zU s (oN τ j) + cst (rt τ k (oN τ j) me) v))) 32 (nI (zT s + v))) 0 (lN (zP s + prc τ j v))) 1 (lN (zC s + cst (rt τ x me (oN τ j)) (prc τ j v)))) 30 j z) f (stp τ me x k f j v s) ∧ ∀ i, gA (sA (sL (sL (sI (sV (sA (sA τ' 27 j (nI v)) 28 j (nI (prc τ j v))) (oN τ j) (lN (f (oN τ j) - zU s (oN τ j) + cst (rt τ k (oN τ j) me) v))) 32 (nI (zT s + v))) 0 (lN (zP s + prc τ j v))) 1 (lN (zC s + cst (rt τ x me (oN τ j)) (prc τ j v)))) 30 j z) 29 i = gA τ' 29 i := fun z hzz => by
      refine ⟨(t4.uL).uA (by decide), ⟨rfl, rfl, rfl, fun o ho2 => ?_, fun i hi => ?_⟩, fun i => ?_⟩
      · rw [gV_sA, gV_sL, gV_sL, gV_sI, gV_sV]
        show _ = lN (f o - va_up (zU s) (oN τ j) (zU s (oN τ j) - cst (rt τ k (oN τ j) me) v) o)
        by_cases c : o = oN τ j
        · rw [if_pos c, c, va_up_self]
          congr 1
          omega
        · rw [if_neg c, va_up_ne _ _ c]
          exact hP.2.2.2.1 o ho2
      · show _ = nI (va_up (zK s) j v i) ∧ _ = nI (va_up (zA s) j (prc τ j v) i) ∧ _ = if va_up (zG s) j _ i = true then 1 else 0
        obtain ⟨a1, a2, a3⟩ := hP.2.2.2.2 i hi
        rw [gA_ne (by decide), gA_ne (by decide), gA_sL, gA_sL, gA_sI, gA_sV, gA_sL, gA_sL, gA_sI, gA_sV, gA_ne (show (27 : Nat) ≠ 28 by decide)]
        by_cases c : i = j
        · subst c
          rw [va_up_self, va_up_self, va_up_self, gA_eq, gA_eq, gA_eq, hzz]
          refine ⟨rfl, rfl, ?_⟩
          by_cases cc : v = gN τ i ∨ prc τ i v = wN τ i
          · rw [if_pos cc, if_pos (decide_eq_true (Or.inr ⟨v0, cc⟩))]
          · rw [if_neg cc, if_neg (fun y => by
              rcases of_decide_eq_true y with y | y
              · exact hf y
              · exact cc y.2)]
        · rw [va_up_ne _ _ c, va_up_ne _ _ c, va_up_ne _ _ c, gA_nj c, gA_nj c, gA_nj c, gA_sL, gA_sL, gA_sI, gA_sV, gA_ne (by decide), gA_ne (by decide), gA_ne (by decide)]
          exact ⟨a1, a2, a3⟩
      · rw [gA_ne (by decide), gA_sL, gA_sL, gA_sI, gA_sV, gA_ne (by decide), gA_ne (by decide)]
    by_cases c1 : v = gN τ j
    · rw [if_pos (by rw [← c1])]
      exact ⟨_, rfl, fin 1 (by rw [if_pos (Or.inl c1)])⟩
    · rw [if_neg (fun z => c1 ((nI_eq (by omega) (by omega)).mp z))]
      by_cases c2 : prc τ j v = wN τ j
      · rw [if_pos (by rw [c2])]
        exact ⟨_, rfl, fin 1 (by rw [if_pos (Or.inr c2)])⟩
      · rw [if_neg (fun z => c2 ((nI_eq (by omega) (by omega)).mp z))]
        exact ⟨_, rfl, fin 0 (by rw [if_neg (fun z => z.elim c1 c2)])⟩
theorem ite10 (c : Prop) [Decidable c] {α : Type} (x y : α) : (if c then x else y) = if (¬ c) then y else x := by
  by_cases h : c
  · rw [if_pos h, if_neg (not_not_intro h)]
  · rw [if_neg h, if_pos h]
theorem canA_ok {me x k j v : Nat} {y : Int64} {f : Nat → Nat} {s : PZ} (hG : Good K L τ) (h : FT τ τ') (hj : j < nO τ) (hm : gI τ 25 = nI me) (hme : me < 6) (hk : k < 13) (hP : MP τ' f s) (hfU : ∀ o, zU s o ≤ f o) (hf : f = fun o => fnd τ o k) (hv : v ≤ gN τ j) : MD_canTake (nI j) (nI v) (nI x) (nI k) y (-1) τ' = some (if v ≤ mov τ me k j s then 1 else 0) := by
  have hn := hG.2.2.2.2.1.2.1
  have hjc : j < 12 := by omega
  obtain ⟨_, g1, g2⟩ := gN_ok hG hj
  obtain ⟨eo, ho⟩ := ft_own hG h hj
  have m25 : gI τ' 25 = nI me := (h.1 25 (by decide)).trans hm
  have q1 := ft_cost hG h (v := v) (k := k) (a := oN τ j) (b := me) (by omega) hk ho hme
  have q2 := ft_funds hG h ho hk
  have q3 := ft_price hG h hj (v := v) (by omega)
  have hfl := fnd_lt (τ := τ) (oN τ j) k
  have hfo := hfU (oN τ j)
  have ef : f (oN τ j) = fnd τ (oN τ j) k := by rw [hf]
  have hcl := cst_le (v := v) (rt_le200 hG.gr k (oN τ j) me)
  unfold MD_canTake
  simp only [nI_clamp (lt31 hjc), if_neg (gin hjc), eo, nmI, nI_clamp (lt31 ho), if_neg (gin ho), nI_l (show v < 2 ^ 31 by omega), m25, q1, q2, bd1, hP.2.2.2.1 _ ho, lN_add, nI_l hfl, q3]
  by_cases c : v ≤ mov τ me k j s
  · have hcv : cst (rt τ k (oN τ j) me) v ≤ zU s (oN τ j) := cst_iff.mpr c
    rw [if_pos c, if_pos ((lg_cmp_le _ _).mpr ((pk_lLE (by omega) (by omega)).mpr (by omega))), if_pos (by decide)]
  · have hcv : ¬ cst (rt τ k (oN τ j) me) v ≤ zU s (oN τ j) := fun z => c (cst_iff.mp z)
    rw [if_neg c, if_neg (fun z => by
      have := (pk_lLE (by omega) (by omega)).mp ((lg_cmp_le _ _).mp z)
      omega)]
theorem canC_ok {me x k j v g0 F : Nat} {f : Nat → Nat} {s : PZ} (hG : Good K L τ) (h : FT τ τ') (hj : j < nO τ) (hm : gI τ 25 = nI me) (hme : me < 6) (hx : x < 13) (hk : k < 13) (hP : MP τ' f s) (hfU : ∀ o, zU s o ≤ f o) (hf : f = fun o => fnd τ o k) (hv : v ≤ gN τ j) (hg0 : g0 ≤ 100000) (hF : F < 2 ^ 31) (h3 : zP s ≤ g0) (h4 : zC s ≤ F) : MD_canTake (nI j) (nI v) (nI x) (nI k) (lN g0 - gL τ' 0) (lN F) τ' = some (if v ≤ min (mov τ me k j s) (mC τ me x g0 F j s * gN τ j / wN τ j) then 1 else 0) := by
  have hn := hG.2.2.2.2.1.2.1
  have hjc : j < 12 := by omega
  obtain ⟨_, g1, g2⟩ := gN_ok hG hj
  obtain ⟨_, w1, w2⟩ := wN_ok hG hj
  obtain ⟨eo, ho⟩ := ft_own hG h hj
  have hpl := prc_le hG hj hv
  have m25 : gI τ' 25 = nI me := (h.1 25 (by decide)).trans hm
  have q1 := ft_cost hG h (v := v) (k := k) (a := oN τ j) (b := me) (by omega) hk ho hme
  have q2 := ft_funds hG h ho hk
  have q3 := ft_price hG h hj (v := v) (by omega)
  have q4 := ft_cost hG h (v := prc τ j v) (k := x) (a := me) (b := oN τ j) (by omega) hx hme ho
  have hfl := fnd_lt (τ := τ) (oN τ j) k
  have hfo := hfU (oN τ j)
  have ef : f (oN τ j) = fnd τ (oN τ j) k := by rw [hf]
  have hcl := cst_le (v := v) (rt_le200 hG.gr k (oN τ j) me)
  have hcl2 := cst_le (v := prc τ j v) (rt_le200 hG.gr x me (oN τ j))
  unfold MD_canTake
  rw [hP.2.1, lN_sub h3]
  simp only [nI_clamp (lt31 hjc), if_neg (gin hjc), eo, nmI, nI_clamp (lt31 ho), if_neg (gin ho), nI_l (show v < 2 ^ 31 by omega), m25, q1, q2, bd1, hP.2.2.2.1 _ ho, lN_add, nI_l hfl, q3, nI_l (show prc τ j v < 2 ^ 31 by omega), q4, hP.2.2.1]
  have hF0 : ¬ lg_cmp (lN F) 0 < 0 := fun z => by
    have := (pk_lLT (a := F) (b := 0) (by omega) (by decide)).mp ((lg_cmp_lt _ _).mp z)
    omega
  by_cases c : v ≤ mov τ me k j s
  · have hcv : cst (rt τ k (oN τ j) me) v ≤ zU s (oN τ j) := cst_iff.mpr c
    rw [if_pos ((lg_cmp_le _ _).mpr ((pk_lLE (by omega) (by omega)).mpr (by omega))), if_neg hF0]
    by_cases c2 : v ≤ mC τ me x g0 F j s * gN τ j / wN τ j
    · have hp2 := (prc_iff hG hj).mpr c2
      have hp3 : prc τ j v ≤ g0 - zP s := by unfold mC at hp2; omega
      have hp4 : cst (rt τ x me (oN τ j)) (prc τ j v) ≤ F - zC s := cst_iff.mpr (by unfold mC at hp2; omega)
      rw [if_pos (show v ≤ min (mov τ me k j s) (mC τ me x g0 F j s * gN τ j / wN τ j) by omega), if_neg (fun z => by
        have := (pk_lLT (by omega) (by omega)).mp ((lg_cmp_gt _ _).mp z)
        omega), if_neg (fun z => by
        have := (pk_lLT (by omega) (by omega)).mp ((lg_cmp_gt _ _).mp z)
        omega)]
    · have hp2 : ¬ prc τ j v ≤ mC τ me x g0 F j s := fun z => c2 ((prc_iff hG hj).mp z)
      rw [if_neg (show ¬ v ≤ min (mov τ me k j s) (mC τ me x g0 F j s * gN τ j / wN τ j) by omega)]
      by_cases c3 : g0 - zP s < prc τ j v
      · rw [if_pos ((lg_cmp_gt _ _).mpr ((pk_lLT (by omega) (by omega)).mpr c3))]
      · have c4 : ¬ cst (rt τ x me (oN τ j)) (prc τ j v) ≤ F - zC s := fun z => by
          have := cst_iff.mp z
          unfold mC at hp2
          omega
        rw [if_neg (fun z => c3 ((pk_lLT (by omega) (by omega)).mp ((lg_cmp_gt _ _).mp z))), if_pos ((lg_cmp_gt _ _).mpr ((pk_lLT (by omega) (by omega)).mpr (by omega)))]
  · have hcv : ¬ cst (rt τ k (oN τ j) me) v ≤ zU s (oN τ j) := fun z => c (cst_iff.mp z)
    rw [if_neg (show ¬ v ≤ min (mov τ me k j s) (mC τ me x g0 F j s * gN τ j / wN τ j) by omega), if_neg (fun z => by
      have := (pk_lLE (by omega) (by omega)).mp ((lg_cmp_le _ _).mp z)
      omega)]
/-- the reference halves for the greatest -/
theorem bin_L {x1 x2 x3 : Int32} {x4 x6 x8 : Int64} {j H R : Nat} {kb : Int32 → Int32 → Int32 → Int64 → Int64 → Int64 → Int32 → ST → Option ST} (hH : H ≤ 100000) (hcan : ∀ v, v ≤ H → MD_canTake (nI j) (nI v) x1 x2 (x6 - gL τ' 0) x8 τ' = some (if v ≤ R then 1 else 0)) : ∀ (d N lo hi : Nat), hi - lo < 2 ^ d → d < N → lo ≤ hi → hi ≤ H → lo ≤ R → min R H ≤ hi → MD_take_L244 kb N x1 x2 x3 x4 x6 x8 (nI j) (nI lo) (nI hi) τ' = bd1 (MD_note (nI j) (nI (min R H)) x1 x2 τ') fun τ2 => MD_take_c326 kb x1 x2 x3 x4 x6 x8 τ2
  | 0, N + 1, lo, hi, h1, _, h3, h4, h5, h6 => by
    have e : lo = hi := by
      have : hi - lo < 1 := h1
      omega
    show MD_take_b244 _ _ _ _ _ _ _ _ _ _ _ _ = _
    unfold MD_take_b244
    rw [if_pos (nI_le (show hi ≤ lo by omega) (by omega)), show lo = min R H by omega]
  | d + 1, N + 1, lo, hi, h1, h2, h3, h4, h5, h6 => by
    show MD_take_b244 _ _ _ _ _ _ _ _ _ _ _ _ = _
    unfold MD_take_b244
    by_cases c : hi ≤ lo
    · rw [if_pos (nI_le c (by omega)), show lo = min R H by omega]
    · rw [Nat.pow_succ] at h1
      have em : (nI lo + nI hi + 1) / 2 = nI ((lo + hi + 1) / 2) := by
        rw [nI_add, nI_1]
        exact pk_div (d := 2) (by omega) (by decide) (by decide)
      rw [if_neg (nI_ge (by omega) (by omega)), em]
      simp only [nmI, hcan ((lo + hi + 1) / 2) (by omega), bd1]
      by_cases c2 : (lo + hi + 1) / 2 ≤ R
      · rw [if_pos c2, if_neg (by decide)]
        unfold MD_take_c295
        rw [if_neg (by decide)]
        exact bin_L hH hcan d N _ hi (by omega) (by omega) (by omega) h4 c2 h6
      · rw [if_neg c2, if_pos rfl]
        unfold MD_take_c295
        rw [if_pos rfl]
        have e1 : nI ((lo + hi + 1) / 2) - 1 = nI ((lo + hi + 1) / 2 - 1) := pk_sub (b := 1) (by omega)
        simp only [nmI, e1]
        exact bin_L hH hcan d N lo _ (by omega) (by omega) (by omega) (by omega) h5 (by omega)
/-- an offer that is gone through -/
theorem thr_ok {x4 x6 x8 : Int64} {me x k j t R : Nat} {f : Nat → Nat} {s : PZ} {kb : Int32 → Int32 → Int32 → Int64 → Int64 → Int64 → Int32 → ST → Option ST} (hG : Good K L τ) (h : FT τ τ') (hj : j < nO τ) (hm : gI τ 25 = nI me) (hme : me < 6) (hx : x < 13) (hk : k < 13) (hP : MP τ' f s) (hfU : ∀ o, zU s o ≤ f o) (hf : f = fun o => fnd τ o k) (hz : zK s j = 0 ∧ zA s j = 0 ∧ zG s j = false) (ht : t ≤ 1000000) (hT : zT s ≤ t) (hR : R ≤ mov τ me k j s) (hcan : ∀ τb, FT τ τb → MP τb f s → ∀ v, v ≤ gN τ j → MD_canTake (nI j) (nI v) (nI x) (nI k) (x6 - gL τb 0) x8 τb = some (if v ≤ R then 1 else 0)) : ∃ τ2, MD_take_c158 kb (nI x) (nI k) (nI t) x4 x6 x8 (nI j) 1 τ' = MD_take_c326 kb (nI x) (nI k) (nI t) x4 x6 x8 τ2 ∧ FT τ τ2 ∧ MP τ2 f (stp τ me x k f j (min (t - zT s) (min (gN τ j) R)) s) ∧ ∀ i, gA τ2 29 i = gA τ' 29 i := by
  have hn := hG.2.2.2.2.1.2.1
  have hjc : j < 12 := by omega
  obtain ⟨_, g1, g2⟩ := gN_ok hG hj
  obtain ⟨eo, ho⟩ := ft_own hG h hj
  have q2 := ft_funds hG h ho hk
  have hfl := fnd_lt (τ := τ) (oN τ j) k
  have ef : f (oN τ j) = fnd τ (oN τ j) k := by rw [hf]
  unfold MD_take_c158
  simp only [i10, if_false, nI_clamp (lt31 hjc), if_neg (gin hjc), eo, q2, bd1]
  by_cases c : fnd τ (oN τ j) k = 0
  · rw [if_pos (by rw [c]; decide)]
    unfold MD_take_c191
    rw [if_neg (nI_in hjc (by decide)), gd_ok (show (1 : Int32) = 0 ∨ (1 : Int32) = 1 from Or.inr rfl)]
    simp only [nI_clamp (lt31 hjc), if_neg (gin hjc), nmS, i10, if_false, gA_eq]
    have hU0 : zU s (oN τ j) = 0 := by
      have := hfU (oN τ j)
      omega
    have hR0 : R = 0 := by
      unfold mov at hR
      rw [hU0, Nat.mul_zero, Nat.zero_div] at hR
      omega
    rw [hR0, show min (t - zT s) (min (gN τ j) 0) = 0 by omega]
    exact ⟨_, rfl, h.uA (by decide), hP.dead hG hj (ef.trans c) hz.1 hz.2.1, fun i => gA_ne (by decide)⟩
  · rw [if_neg (nI_ne0 (by omega) hfl)]
    unfold MD_take_c191
    have hC1 : FT τ (sA τ' 30 j 0) := h.uA (by decide)
    have hP1 : MP (sA τ' 30 j 0) f s := hP.s30 hz.2.2
    have q5 : gA (sA τ' 30 j 0) 20 j = nI (gN τ j) := ft_g hG hC1 hj
    have q6 : gI (sA τ' 30 j 0) 32 = nI (zT s) := hP1.1
    rw [if_neg (nI_in hjc (by decide)), gd_ok (show (0 : Int32) = 0 ∨ (0 : Int32) = 1 from Or.inl rfl)]
    simp only [nI_clamp (lt31 hjc), if_neg (gin hjc), nmS, nmI, i10, if_false, gA_eq, i00, if_true, q5, q6, pk_sub hT]
    have tail : ∀ H, H = min (gN τ j) (t - zT s) → ∃ τ2, MD_take_L244 kb FU (nI x) (nI k) (nI t) x4 x6 x8 (nI j) 0 (nI H) (sA τ' 30 j 0) = MD_take_c326 kb (nI x) (nI k) (nI t) x4 x6 x8 τ2 ∧ FT τ τ2 ∧ MP τ2 f (stp τ me x k f j (min (t - zT s) (min (gN τ j) R)) s) ∧ ∀ i, gA τ2 29 i = gA τ' 29 i := fun H hH => by
      have e := bin_L (x1 := nI x) (x2 := nI k) (x3 := nI t) (x4 := x4) (x6 := x6) (x8 := x8) (j := j) (H := H) (R := R) (kb := kb) (τ' := sA τ' 30 j 0) (by omega) (fun v hv => hcan _ hC1 hP1 v (by omega)) 17 FU 0 H (by omega) (by rw [FUv]; decide) (by omega) (by omega) (by omega) (by omega)
      rw [nI_0] at e
      rw [e, show min R H = min (t - zT s) (min (gN τ j) R) by omega]
      obtain ⟨τ2, e2, r1, r2, r3⟩ := note_ok (v := min (t - zT s) (min (gN τ j) R)) hG hC1 hj hm hme hx hk hP1 hfU (by rw [ef]; exact c) hz (by omega) (by omega)
      rw [e2]
      exact ⟨τ2, rfl, r1, r2, fun i => (r3 i).trans (gA_ne (by decide))⟩
    by_cases c2 : gN τ j ≤ t - zT s
    · rw [if_pos (nI_le c2 (by omega))]
      exact tail _ (by omega)
    · rw [if_neg (nI_ge (by omega) (by omega))]
      exact tail _ (by omega)
theorem Sn_up {b : Nat → Nat} {n p : Nat} {τ1 : ST} (h : FT τ τ') (h1 : FT τ τ1) (hS : Sn τ' b p) (hp : p < n) (e : ∀ i, gA τ1 29 i = gA (sA τ' 29 (b p) 1) 29 i) : Sn τ1 b (p + 1) := by
  have hS1 : Sn (sA τ' 29 (b p) 1) b (p + 1) := hS.set (x := 0) (k := 0) (a := 0) hp
  intro i hi
  rw [e]
  exact hS1 i (by rw [(h.uA (by decide) : FT τ (sA τ' 29 (b p) 1)).eNO]; rw [h1.eNO] at hi; exact hi)
theorem nxt {x k me n p : Nat} {x3 : Int32} {x4 x6 x8 : Int64} {b : Nat → Nat} {kb : Int32 → Int32 → Int32 → Int64 → Int64 → Int64 → Int32 → ST → Option ST} (hG : Good K L τ) (hR : Row τ (nI x) (nI k) (nI me) (nO τ) b n) (hm : gI τ 25 = nI me) (h : FT τ τ') (hS : Sn τ' b p) (hp : p ≤ n) : MD_take_c326 kb (nI x) (nI k) x3 x4 x6 x8 τ' = kb (nI x) (nI k) x3 x4 x6 x8 (if p < n then nI (b p) else -1) τ' := by
  unfold MD_take_c326
  have m25 : gI τ' 25 = nI me := (h.1 25 (by decide)).trans hm
  have hR' : Row τ' (nI x) (nI k) (nI me) (nO τ') b n := by rw [h.eNO]; exact h.row hR
  rw [m25, next_ok (good_ft h hG) hR' hS hp]
  rfl
theorem takeA_L {me x k n t : Nat} {f b : Nat → Nat} (hG : Good K L τ) (hR : Row τ (nI x) (nI k) (nI me) (nO τ) b n) (hm : gI τ 25 = nI me) (hf : f = fun o => fnd τ o k) (hme : me < 6) (hx : x < 13) (hk : k < 13) (ht : t ≤ 1000000) : ∀ (m N : Nat) (τ' : ST) (s : PZ), zR s + m = n → m < N → FT τ τ' → MP τ' f s → Sn τ' b (zR s) → IA τ f b t s → ∃ τ1, MD_take_L99 N (nI x) (nI k) (nI t) 0 0 (-1) (if zR s < n then nI (b (zR s)) else -1) τ' = some τ1 ∧ FT τ τ1 ∧ MP τ1 f (pln (stA t) (sfA τ me x k f t) b m (zR s) s)
  | 0, N + 1, τ', s, hmn, _, h, hP, hS, hI => by
    show ∃ τ1, MD_take_b99 _ _ _ _ _ _ _ _ _ = some τ1 ∧ _
    unfold MD_take_b99
    rw [if_neg (show ¬ zR s < n by omega), if_pos (show (-1 : Int32) < 0 by decide)]
    refine ⟨τ', ?_, h, hP⟩
    split <;> rfl
  | m + 1, N + 1, τ', s, hmn, hN, h, hP, hS, hI => by
    have hn := hG.2.2.2.2.1.2.1
    have hs := hR.2.2.2
    have hp : zR s < n := by omega
    have hj := (hR.2.1 _ hp).1
    have hjc : b (zR s) < 12 := by omega
    have hT := hI.2
    obtain ⟨b1, b2, b3, b4, b5, b6⟩ := hI.1
    show ∃ τ1, MD_take_b99 _ _ _ _ _ _ _ _ _ = some τ1 ∧ FT τ τ1 ∧ MP τ1 f (if stA t (b (zR s)) s = true then s else pln (stA t) (sfA τ me x k f t) b m (zR s + 1) (sfA τ me x k f t (b (zR s)) s))
    unfold MD_take_b99
    rw [if_pos hp, hP.1]
    by_cases c : t ≤ zT s
    · rw [if_pos (nI_le c (by omega)), if_pos (show stA t (b (zR s)) s = true from decide_eq_true c)]
      exact ⟨τ', rfl, h, hP⟩
    · rw [if_neg (nI_ge (by omega) (by omega)), if_neg (show ¬ stA t (b (zR s)) s = true from fun z => c (of_decide_eq_true z)), if_neg (nI_pos (lt31 hjc))]
      simp only [nI_clamp (lt31 hjc), if_neg (gin hjc), nmS, if_pos (show lg_cmp (-1) 0 < 0 by decide)]
      have hz := b5 (b (zR s)) (fun q hq z => by
        have := hR.inj (show q < n by omega) hp z
        omega)
      have h1 : FT τ (sA τ' 29 (b (zR s)) 1) := h.uA (by decide)
      obtain ⟨τ2, e2, r1, r2, r3⟩ := thr_ok (x4 := 0) (x6 := 0) (x8 := -1) (t := t) (R := mov τ me k (b (zR s)) s) (kb := fun x1 x2 x3 x4 x6 x8 x10 σ => MD_take_L99 N x1 x2 x3 x4 x6 x8 x10 σ) hG h1 hj hm hme hx hk hP.s29 b4 hf hz ht hT (Nat.le_refl _) (fun τb ha hb v hv => canA_ok hG ha hj hm hme hk hb b4 hf hv)
      rw [e2]
      have hS2 : Sn τ2 b (zR s + 1) := Sn_up h r1 hS hp r3
      rw [nxt hG hR hm r1 hS2 (by omega)]
      exact takeA_L hG hR hm hf hme hx hk ht m N τ2 (sfA τ me x k f t (b (zR s)) s) (by show zR s + 1 + m = n; omega) (by omega) r1 r2 hS2 (hI.step hG hR hp)
theorem skip_L {me x k n w0 g0 F : Nat} {f b : Nat → Nat} {s : PZ} (hG : Good K L τ) (hR : Row τ (nI x) (nI k) (nI me) (nO τ) b n) (hm : gI τ 25 = nI me) (hw : w0 ≤ 100000) (hg : g0 ≤ 100000) (hF : F < 2 ^ 31) (hT : zT s < w0) (hz : ∀ q, zR s ≤ q → q < n → zG s (b q) = false) : ∀ (m N p : Nat) (τ' : ST), p + m = n → m < N → zR s ≤ p → FT τ τ' → MP τ' f s → Sn τ' b p → (∀ q, p ≤ q → q < n → g0 * gN τ (b q) < wN τ (b q) * w0) → ∃ τ1, MD_take_L99 N (nI x) (nI k) (nI w0) (lN w0) (lN g0) (lN F) (if p < n then nI (b p) else -1) τ' = some τ1 ∧ FT τ τ1 ∧ MP τ1 f s
  | 0, N + 1, p, τ', hmn, _, hp0, h, hP, hS, hno => by
    show ∃ τ1, MD_take_b99 _ _ _ _ _ _ _ _ _ = some τ1 ∧ _
    unfold MD_take_b99
    rw [if_neg (show ¬ p < n by omega), if_pos (show (-1 : Int32) < 0 by decide)]
    refine ⟨τ', ?_, h, hP⟩
    split <;> rfl
  | m + 1, N + 1, p, τ', hmn, hN, hp0, h, hP, hS, hno => by
    have hn := hG.2.2.2.2.1.2.1
    have hs := hR.2.2.2
    have hp : p < n := by omega
    have hj := (hR.2.1 _ hp).1
    have hjc : b p < 12 := by omega
    obtain ⟨_, hg1, hg2⟩ := gN_ok hG hj
    obtain ⟨_, hw1, hw2⟩ := wN_ok hG hj
    have m1 : wN τ (b p) * w0 ≤ 100000 * 100000 := Nat.mul_le_mul hw2 hw
    have m2 : g0 * gN τ (b p) ≤ 100000 * 100000 := Nat.mul_le_mul hg hg2
    have h1 : FT τ (sA τ' 29 (b p) 1) := h.uA (by decide)
    have hF0 : ¬ lg_cmp (lN F) 0 < 0 := fun z => by
      have := (pk_lLT (a := F) (b := 0) (by omega) (by decide)).mp ((lg_cmp_lt _ _).mp z)
      omega
    show ∃ τ1, MD_take_b99 _ _ _ _ _ _ _ _ _ = some τ1 ∧ _
    unfold MD_take_b99
    rw [if_pos hp, hP.1, if_neg (nI_ge hT (by omega)), if_neg (nI_pos (lt31 hjc))]
    simp only [nI_clamp (lt31 hjc), if_neg (gin hjc), nmS, if_neg hF0, ft_w hG h1 hj, ft_g hG h1 hj, nI_l (show wN τ (b p) < 2 ^ 31 by omega), nI_l (show gN τ (b p) < 2 ^ 31 by omega), lN_mul]
    rw [if_pos ((lg_cmp_gt _ _).mpr ((pk_lLT (by omega) (by omega)).mpr (hno p (Nat.le_refl _) hp)))]
    unfold MD_take_c158
    rw [if_pos rfl]
    unfold MD_take_c191
    rw [if_neg (nI_in hjc (by decide)), gd_ok (show (0 : Int32) = 0 ∨ (0 : Int32) = 1 from Or.inl rfl)]
    simp only [nI_clamp (lt31 hjc), nmS, i00, if_true]
    have h2 : FT τ (sA (sA τ' 29 (b p) 1) 30 (b p) 0) := h1.uA (by decide)
    have hS2 : Sn (sA (sA τ' 29 (b p) 1) 30 (b p) 0) b (p + 1) := Sn_up h h2 hS hp (fun i => gA_ne (by decide))
    rw [nxt hG hR hm h2 hS2 (by omega)]
    exact skip_L hG hR hm hw hg hF hT hz m N (p + 1) _ (by omega) (by omega) (by omega) h2 (hP.s29.s30 (hz p hp0 hp)) hS2 (fun q hq => hno q (by omega))
theorem takeC_L {me x k n w0 g0 F : Nat} {f b : Nat → Nat} (hG : Good K L τ) (hR : Row τ (nI x) (nI k) (nI me) (nO τ) b n) (hm : gI τ 25 = nI me) (hf : f = fun o => fnd τ o k) (hme : me < 6) (hx : x < 13) (hk : k < 13) (hw : w0 ≤ 100000) (hg : g0 ≤ 100000) (hF : F < 2 ^ 31) : ∀ (m N : Nat) (τ' : ST) (s : PZ), zR s + m = n → m < N → FT τ τ' → MP τ' f s → Sn τ' b (zR s) → IC τ f b w0 g0 F s → ∃ τ1, MD_take_L99 N (nI x) (nI k) (nI w0) (lN w0) (lN g0) (lN F) (if zR s < n then nI (b (zR s)) else -1) τ' = some τ1 ∧ FT τ τ1 ∧ MP τ1 f (pln (stC τ w0 g0) (sfC τ me x k f w0 g0 F) b m (zR s) s)
  | 0, N + 1, τ', s, hmn, _, h, hP, hS, hI => by
    show ∃ τ1, MD_take_b99 _ _ _ _ _ _ _ _ _ = some τ1 ∧ _
    unfold MD_take_b99
    rw [if_neg (show ¬ zR s < n by omega), if_pos (show (-1 : Int32) < 0 by decide)]
    refine ⟨τ', ?_, h, hP⟩
    split <;> rfl
  | m + 1, N + 1, τ', s, hmn, hN, h, hP, hS, hI => by
    have hn := hG.2.2.2.2.1.2.1
    have hs := hR.2.2.2
    have hp : zR s < n := by omega
    have hj := (hR.2.1 _ hp).1
    have hjc : b (zR s) < 12 := by omega
    obtain ⟨i1, i2, i3, i4⟩ := hI
    obtain ⟨b1, b2, b3, b4, b5, b6⟩ := i1
    obtain ⟨_, hg1, hg2⟩ := gN_ok hG hj
    obtain ⟨_, hw1, hw2⟩ := wN_ok hG hj
    have m1 : wN τ (b (zR s)) * w0 ≤ 100000 * 100000 := Nat.mul_le_mul hw2 hw
    have m2 : g0 * gN τ (b (zR s)) ≤ 100000 * 100000 := Nat.mul_le_mul hg hg2
    have hzz : ∀ q, zR s ≤ q → q < n → zK s (b q) = 0 ∧ zA s (b q) = 0 ∧ zG s (b q) = false := fun q h1 h2 => b5 (b q) (fun q' hq' z => by
      have := hR.inj (show q' < n by omega) h2 z
      omega)
    show ∃ τ1, MD_take_L99 (N + 1) (nI x) (nI k) (nI w0) (lN w0) (lN g0) (lN F) (if zR s < n then nI (b (zR s)) else -1) τ' = some τ1 ∧ FT τ τ1 ∧ MP τ1 f (if stC τ w0 g0 (b (zR s)) s = true then s else pln (stC τ w0 g0) (sfC τ me x k f w0 g0 F) b m (zR s + 1) (sfC τ me x k f w0 g0 F (b (zR s)) s))
    by_cases c : w0 ≤ zT s
    · rw [if_pos (show stC τ w0 g0 (b (zR s)) s = true from decide_eq_true (Or.inl c))]
      show ∃ τ1, MD_take_b99 _ _ _ _ _ _ _ _ _ = some τ1 ∧ _
      unfold MD_take_b99
      rw [hP.1, if_pos (nI_le c (by omega))]
      exact ⟨τ', rfl, h, hP⟩
    · by_cases c2 : g0 * gN τ (b (zR s)) < wN τ (b (zR s)) * w0
      · rw [if_pos (show stC τ w0 g0 (b (zR s)) s = true from decide_eq_true (Or.inr c2))]
        exact skip_L hG hR hm hw hg hF (by omega) (fun q h1 h2 => (hzz q h1 h2).2.2) (m + 1) (N + 1) (zR s) τ' hmn hN (Nat.le_refl _) h hP hS (fun q h1 h2 => by
          by_cases cq : q = zR s
          · rw [cq]; exact c2
          · exact rt_lt1 (by omega) (gN_ok hG (hR.2.1 q h2).1).2.1 c2 (ahd_le (hR.1 (zR s) q (by omega) h2)))
      · rw [if_neg (show ¬ stC τ w0 g0 (b (zR s)) s = true from fun z => (of_decide_eq_true z).elim c c2)]
        have h1 : FT τ (sA τ' 29 (b (zR s)) 1) := h.uA (by decide)
        have hF0 : ¬ lg_cmp (lN F) 0 < 0 := fun z => by
          have := (pk_lLT (a := F) (b := 0) (by omega) (by decide)).mp ((lg_cmp_lt _ _).mp z)
          omega
        show ∃ τ1, MD_take_b99 _ _ _ _ _ _ _ _ _ = some τ1 ∧ _
        unfold MD_take_b99
        rw [if_pos hp, hP.1, if_neg (nI_ge (by omega) (by omega)), if_neg (nI_pos (lt31 hjc))]
        simp only [nI_clamp (lt31 hjc), if_neg (gin hjc), nmS, if_neg hF0, ft_w hG h1 hj, ft_g hG h1 hj, nI_l (show wN τ (b (zR s)) < 2 ^ 31 by omega), nI_l (show gN τ (b (zR s)) < 2 ^ 31 by omega), lN_mul]
        rw [if_neg (fun z => c2 ((pk_lLT (by omega) (by omega)).mp ((lg_cmp_gt _ _).mp z)))]
        obtain ⟨τ2, e2, r1, r2, r3⟩ := thr_ok (x4 := lN w0) (x6 := lN g0) (x8 := lN F) (t := w0) (R := min (mov τ me k (b (zR s)) s) (mC τ me x g0 F (b (zR s)) s * gN τ (b (zR s)) / wN τ (b (zR s)))) (kb := fun x1 x2 x3 x4 x6 x8 x10 σ => MD_take_L99 N x1 x2 x3 x4 x6 x8 x10 σ) hG h1 hj hm hme hx hk hP.s29 b4 hf (hzz _ (Nat.le_refl _) hp) (by omega) i2 (Nat.min_le_left _ _) (fun τb ha hb v hv => canC_ok hG ha hj hm hme hx hk hb b4 hf hv hg hF i3 i4)
        rw [e2]
        have hS2 : Sn τ2 b (zR s + 1) := Sn_up h r1 hS hp r3
        rw [nxt hG hR hm r1 hS2 (by omega)]
        have ev : min (w0 - zT s) (min (gN τ (b (zR s))) (min (mov τ me k (b (zR s)) s) (mC τ me x g0 F (b (zR s)) s * gN τ (b (zR s)) / wN τ (b (zR s))))) = vC τ me x k w0 g0 F (b (zR s)) s := by
          unfold vC cC
          omega
        rw [ev] at r2
        exact takeC_L hG hR hm hf hme hx hk hw hg hF m N τ2 (sfC τ me x k f w0 g0 F (b (zR s)) s) (by show zR s + 1 + m = n; omega) (by omega) r1 r2 hS2 (IC.step hG hR ⟨⟨b1, b2, b3, b4, b5, b6⟩, i2, i3, i4⟩ hp)
/-! the reference sets out -/
theorem L66_ok {x1 x2 x3 : Int32} {x4 x6 x8 : Int64} : ∀ (m N j : Nat) (τ' : ST), j + m = 6 → m < N → FT τ τ' → (gI τ' 32 = 0 ∧ gL τ' 0 = 0 ∧ gL τ' 1 = 0) → (∀ b i, 27 ≤ b → b ≤ 30 → i < 12 → gA τ' b i = 0) → (∀ i, i < j → gV τ' i = 0) → ∃ τ1, MD_take_L66 N x1 x2 x3 x4 x6 x8 (nI j) τ' = bd1 (MD_nextOf x1 x2 (gI τ1 25) τ1) (fun r94 => MD_take_L99 FU x1 x2 x3 x4 x6 x8 r94 τ1) ∧ FT τ τ1 ∧ (gI τ1 32 = 0 ∧ gL τ1 0 = 0 ∧ gL τ1 1 = 0) ∧ (∀ b i, 27 ≤ b → b ≤ 30 → i < 12 → gA τ1 b i = 0) ∧ ∀ i, i < 6 → gV τ1 i = 0
  | 0, N + 1, j, τ', hj, _, h, h1, h2, h3 => by
    show ∃ τ1, MD_take_b66 _ _ _ _ _ _ _ _ _ = _ ∧ _
    unfold MD_take_b66
    rw [if_pos (show (6 : Int32) ≤ nI j from nI_le (a := 6) (by omega) (by omega))]
    exact ⟨τ', rfl, h, h1, h2, fun i hi => h3 i (by omega)⟩
  | m + 1, N + 1, j, τ', hj, hN, h, h1, h2, h3 => by
    show ∃ τ1, MD_take_b66 _ _ _ _ _ _ _ _ _ = _ ∧ _
    unfold MD_take_b66
    rw [if_neg (show ¬ (6 : Int32) ≤ nI j from nI_ge (b := 6) (by omega) (by omega))]
    simp only [nI_clamp (show j < 2 ^ 31 by omega), if_neg (gin (show j < 6 by omega)), nmS, nI_1]
    exact L66_ok m N (j + 1) (sV τ' j 0) (by omega) (by omega) h.uV h1 h2 (fun i hi => by
      rw [gV_sV]
      by_cases c : i = j
      · rw [if_pos c]
      · rw [if_neg c]
        exact h3 i (by omega))
theorem L18_ok {x1 x2 x3 : Int32} {x4 x6 x8 : Int64} : ∀ (m N j : Nat) (τ' : ST), j + m = 12 → m < N → FT τ τ' → (gI τ' 32 = 0 ∧ gL τ' 0 = 0 ∧ gL τ' 1 = 0) → (∀ b i, 27 ≤ b → b ≤ 30 → i < j → gA τ' b i = 0) → ∃ τ1, MD_take_L18 N x1 x2 x3 x4 x6 x8 (nI j) τ' = MD_take_L66 FU x1 x2 x3 x4 x6 x8 0 τ1 ∧ FT τ τ1 ∧ (gI τ1 32 = 0 ∧ gL τ1 0 = 0 ∧ gL τ1 1 = 0) ∧ ∀ b i, 27 ≤ b → b ≤ 30 → i < 12 → gA τ1 b i = 0
  | 0, N + 1, j, τ', hj, _, h, h1, h2 => by
    show ∃ τ1, MD_take_b18 _ _ _ _ _ _ _ _ _ = _ ∧ _
    unfold MD_take_b18
    rw [if_pos (show (12 : Int32) ≤ nI j from nI_le (a := 12) (by omega) (by omega))]
    exact ⟨τ', rfl, h, h1, fun b i c1 c2 hi => h2 b i c1 c2 (by omega)⟩
  | m + 1, N + 1, j, τ', hj, hN, h, h1, h2 => by
    show ∃ τ1, MD_take_b18 _ _ _ _ _ _ _ _ _ = _ ∧ _
    unfold MD_take_b18
    rw [if_neg (show ¬ (12 : Int32) ≤ nI j from nI_ge (b := 12) (by omega) (by omega))]
    simp only [nI_clamp (show j < 2 ^ 31 by omega), if_neg (gin (show j < 12 by omega)), nmS, nI_1]
    refine L18_ok m N (j + 1) (sA (sA (sA (sA τ' 27 j 0) 28 j 0) 29 j 0) 30 j 0) (by omega) (by omega) ((((h.uA (by decide)).uA (by decide)).uA (by decide)).uA (by decide)) h1 (fun b i c1 c2 hi => ?_)
    rw [gA_sA, gA_sA, gA_sA, gA_sA]
    by_cases c : i = j
    · simp only [if_pos c]
      by_cases d1 : b = 30
      · rw [if_pos d1]
      · rw [if_neg d1]
        by_cases d2 : b = 29
        · rw [if_pos d2]
        · rw [if_neg d2]
          by_cases d3 : b = 28
          · rw [if_pos d3]
          · rw [if_neg d3, if_pos (by omega)]
    · simp only [if_neg c, ite_self]
      exact h2 b i c1 c2 (by omega)
theorem nmS_e {S α : Type} (x : S) (f : S → Option α) : nmS x f = f x := rfl
theorem take0 {x1 x2 x3 : Int32} {x4 x6 x8 : Int64} {f b : Nat → Nat} (hG : Good K L τ) (h : FT τ τ0) : ∃ τ1, MD_take x1 x2 x3 x4 x6 x8 τ0 = bd1 (MD_nextOf x1 x2 (gI τ1 25) τ1) (fun r94 => MD_take_L99 FU x1 x2 x3 x4 x6 x8 r94 τ1) ∧ FT τ τ1 ∧ MP τ1 f (ps0 f) ∧ Sn τ1 b 0 := by
  have hn := hG.2.2.2.2.1.2.1
  unfold MD_take
  rw [nmS_e, nmS_e, nmS_e]
  obtain ⟨τ1, e1, r1, r2, r3⟩ := L18_ok (x1 := x1) (x2 := x2) (x3 := x3) (x4 := x4) (x6 := x6) (x8 := x8) 12 FU 0 (sL (sL (sI τ0 32 0) 0 0) 1 0) (by omega) (by rw [FUv]; omega) ((h.uI.uL).uL) ⟨rfl, rfl, rfl⟩ (fun b i _ _ hi => absurd hi (Nat.not_lt_zero _))
  rw [nI_0] at e1
  rw [e1]
  obtain ⟨τ2, e2, s1, s2, s3, s4⟩ := L66_ok (x1 := x1) (x2 := x2) (x3 := x3) (x4 := x4) (x6 := x6) (x8 := x8) 6 FU 0 τ1 (by omega) (by rw [FUv]; omega) r1 r2 r3 (fun i hi => absurd hi (Nat.not_lt_zero _))
  rw [nI_0] at e2
  rw [e2]
  refine ⟨τ2, rfl, s1, ⟨s2.1, s2.2.1, s2.2.2, fun o ho => ?_, fun j hj => ⟨s3 27 j (by decide) (by decide) hj, s3 28 j (by decide) (by decide) hj, s3 30 j (by decide) (by decide) hj⟩⟩, fun j hj => ?_⟩
  · show gV τ2 o = lN (f o - f o)
    rw [Nat.sub_self]
    exact s4 o ho
  · rw [s1.eNO] at hj
    exact ⟨fun _ q hq => absurd hq (Nat.not_lt_zero _), fun _ => s3 29 j (by decide) (by decide) (by omega)⟩
theorem takeA_ok {me x k n t : Nat} {f b : Nat → Nat} (hG : Good K L τ) (h : FT τ τ0) (hR : Row τ (nI x) (nI k) (nI me) (nO τ) b n) (hm : gI τ 25 = nI me) (hf : f = fun o => fnd τ o k) (hme : me < 6) (hx : x < 13) (hk : k < 13) (ht : t ≤ 1000000) : ∃ τ1, MD_take (nI x) (nI k) (nI t) 0 0 (-1) τ0 = some τ1 ∧ FT τ τ1 ∧ MP τ1 f (plA τ me x k f b n t) := by
  have hn := hG.2.2.2.2.1.2.1
  have hs := hR.2.2.2
  obtain ⟨τ1, e1, r1, r2, r3⟩ := take0 (x1 := nI x) (x2 := nI k) (x3 := nI t) (x4 := 0) (x6 := 0) (x8 := -1) (f := f) (b := b) hG h
  have hR' : Row τ1 (nI x) (nI k) (nI me) (nO τ1) b n := by rw [r1.eNO]; exact r1.row hR
  rw [e1, (r1.1 25 (by decide)).trans hm, next_ok (good_ft r1 hG) hR' r3 (Nat.zero_le _)]
  exact takeA_L hG hR hm hf hme hx hk ht n FU τ1 (ps0 f) (Nat.zero_add n) (by rw [FUv]; omega) r1 r2 r3 ⟨PB0, Nat.zero_le _⟩
theorem takeC_ok {me x k n w0 g0 F : Nat} {f b : Nat → Nat} (hG : Good K L τ) (h : FT τ τ0) (hR : Row τ (nI x) (nI k) (nI me) (nO τ) b n) (hm : gI τ 25 = nI me) (hf : f = fun o => fnd τ o k) (hme : me < 6) (hx : x < 13) (hk : k < 13) (hw : w0 ≤ 100000) (hg : g0 ≤ 100000) (hF : F < 2 ^ 31) : ∃ τ1, MD_take (nI x) (nI k) (nI w0) (lN w0) (lN g0) (lN F) τ0 = some τ1 ∧ FT τ τ1 ∧ MP τ1 f (plC τ me x k f b n w0 g0 F) := by
  have hn := hG.2.2.2.2.1.2.1
  have hs := hR.2.2.2
  obtain ⟨τ1, e1, r1, r2, r3⟩ := take0 (x1 := nI x) (x2 := nI k) (x3 := nI w0) (x4 := lN w0) (x6 := lN g0) (x8 := lN F) (f := f) (b := b) hG h
  have hR' : Row τ1 (nI x) (nI k) (nI me) (nO τ1) b n := by rw [r1.eNO]; exact r1.row hR
  rw [e1, (r1.1 25 (by decide)).trans hm, next_ok (good_ft r1 hG) hR' r3 (Nat.zero_le _)]
  exact takeC_L hG hR hm hf hme hx hk hw hg hF n FU τ1 (ps0 f) (Nat.zero_add n) (by rw [FUv]; omega) r1 r2 r3 ⟨PB0, Nat.zero_le _, Nat.zero_le _, Nat.zero_le _⟩
end TAK
