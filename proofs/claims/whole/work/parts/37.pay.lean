section PAY
variable {eE : Nat × Nat} {μ ν σ σ' τ τ' τ0 : ST} {K L : Nat}
/-! a lesser target takes a beginning of the same plan -/
theorem zC_mn {me x k t : Nat} {f b : Nat → Nat} : ∀ (m p : Nat) (s : PZ), zC s ≤ zC (pln (stA t) (sfA τ me x k f t) b m p s)
  | 0, _, _ => Nat.le_refl _
  | m + 1, p, s => by
    show zC s ≤ zC (if stA t (b p) s = true then s else pln (stA t) (sfA τ me x k f t) b m (p + 1) (sfA τ me x k f t (b p) s))
    split
    · exact Nat.le_refl _
    · have h1 : zC s ≤ zC (sfA τ me x k f t (b p) s) := Nat.le_add_right _ _
      exact Nat.le_trans h1 (zC_mn m (p + 1) _)
theorem pln_st {st : Nat → PZ → Bool} {sf : Nat → PZ → PZ} {b : Nat → Nat} {s : PZ} (h : ∀ j, st j s = true) : ∀ (m p : Nat), pln st sf b m p s = s
  | 0, _ => rfl
  | m + 1, p => if_pos (h (b p))
theorem plA_mn {me x k t t' : Nat} {f b : Nat → Nat} (htt : t' ≤ t) : ∀ (m p : Nat) (s : PZ), (t ≤ zT (pln (stA t) (sfA τ me x k f t) b m p s) → t' ≤ zT (pln (stA t') (sfA τ me x k f t') b m p s)) ∧ zC (pln (stA t') (sfA τ me x k f t') b m p s) ≤ zC (pln (stA t) (sfA τ me x k f t) b m p s)
  | 0, _, s => ⟨fun h => by
    have h' : t ≤ zT s := h
    show t' ≤ zT s
    omega, Nat.le_refl _⟩
  | m + 1, p, s => by
    show (t ≤ zT (if stA t (b p) s = true then s else pln (stA t) (sfA τ me x k f t) b m (p + 1) (sfA τ me x k f t (b p) s)) → t' ≤ zT (if stA t' (b p) s = true then s else pln (stA t') (sfA τ me x k f t') b m (p + 1) (sfA τ me x k f t' (b p) s))) ∧ zC (if stA t' (b p) s = true then s else pln (stA t') (sfA τ me x k f t') b m (p + 1) (sfA τ me x k f t' (b p) s)) ≤ zC (if stA t (b p) s = true then s else pln (stA t) (sfA τ me x k f t) b m (p + 1) (sfA τ me x k f t (b p) s))
    by_cases c' : t' ≤ zT s
    · rw [if_pos (show stA t' (b p) s = true from decide_eq_true c')]
      refine ⟨fun _ => c', ?_⟩
      split
      · exact Nat.le_refl _
      · have h1 : zC s ≤ zC (sfA τ me x k f t (b p) s) := Nat.le_add_right _ _
        exact Nat.le_trans h1 (zC_mn m (p + 1) _)
    · have c : ¬ t ≤ zT s := by omega
      rw [if_neg (show ¬ stA t' (b p) s = true from fun z => c' (of_decide_eq_true z)), if_neg (show ¬ stA t (b p) s = true from fun z => c (of_decide_eq_true z))]
      by_cases e : vA τ me k t' (b p) s = vA τ me k t (b p) s
      · have e1 : sfA τ me x k f t' (b p) s = sfA τ me x k f t (b p) s := by
          unfold sfA
          rw [e]
        rw [e1]
        exact plA_mn htt m (p + 1) _
      · have e1 : vA τ me k t' (b p) s = t' - zT s := by unfold vA at *; omega
        have e2 : vA τ me k t' (b p) s ≤ vA τ me k t (b p) s := by unfold vA at *; omega
        have hz : zT (sfA τ me x k f t' (b p) s) = t' := by
          show zT s + vA τ me k t' (b p) s = t'
          omega
        rw [pln_st (s := sfA τ me x k f t' (b p) s) (fun j => decide_eq_true (by omega)) m (p + 1)]
        refine ⟨fun _ => by omega, ?_⟩
        have h1 : zC (sfA τ me x k f t' (b p) s) ≤ zC (sfA τ me x k f t (b p) s) := Nat.add_le_add_left (cst_mono (prc_mono e2)) _
        exact Nat.le_trans h1 (zC_mn m (p + 1) _)
/-! what works -/
def ndc (τ : ST) (me bb k d : Nat) : Nat := cst (rt τ k me bb) d
def Rm (τ : ST) (bb k d : Nat) : Prop := (k - 1) % 6 = bb ∨ (gA τ 12 (cel bb k)).toInt + d ≤ (gA τ 13 (cel bb k)).toInt
def Hs (τ : ST) (me bb k : Nat) : Prop := gA τ 14 (cem me k) ≠ 0 ∧ gA τ 14 (cem bb k) ≠ 0
def Wk (τ : ST) (me x k bb : Nat) (f b : Nat → Nat) (n P d : Nat) : Prop := Rm τ bb k d ∧ ((x = k ∧ ¬ Hs τ me bb k ∧ ndc τ me bb k d ≤ P) ∨ (x ≠ k ∧ ndc τ me bb k d ≤ zT (plA τ me x k f b n (ndc τ me bb k d)) ∧ zC (plA τ me x k f b n (ndc τ me bb k d)) ≤ P))
def sp (τ : ST) (me x k bb : Nat) (f b : Nat → Nat) (n d : Nat) : Nat := if x = k then ndc τ me bb k d else zC (plA τ me x k f b n (ndc τ me bb k d))
theorem Wk_mn {me x k bb n P d d' : Nat} {f b : Nat → Nat} (h : Wk τ me x k bb f b n P d) (hd : d' ≤ d) : Wk τ me x k bb f b n P d' := by
  have hn : ndc τ me bb k d' ≤ ndc τ me bb k d := cst_mono hd
  obtain ⟨h1, h2⟩ := h
  refine ⟨h1.imp id (fun z => by omega), h2.imp (fun z => ⟨z.1, z.2.1, by omega⟩) (fun z => ?_)⟩
  have hp := plA_mn (τ := τ) (me := me) (x := x) (k := k) (f := f) (b := b) hn n 0 (ps0 f)
  exact ⟨z.1, hp.1 z.2.1, Nat.le_trans hp.2 z.2.2⟩
theorem nd_le (hG : Good K L τ) {me bb k d : Nat} (hd : d ≤ 400) : ndc τ me bb k d ≤ 500 := by
  have := cst_le (v := d) (rt_le200 hG.gr k me bb)
  unfold ndc
  omega
theorem room_n (hG : Good K L τ) {i d : Nat} (hi : i < 72) (hd : d ≤ 400) (hK : K + 400 < 2 ^ 31) : (gA τ 12 i + nI d).toInt = (gA τ 12 i).toInt + d := by
  have hb := (hG.2.2.1 i hi).1
  have hd' : d < 2 ^ 31 := by omega
  rw [i_add (by rw [nI_toInt hd']; have := hb.1; omega) (by rw [nI_toInt hd']; have := hb.2; omega), nI_toInt hd']
theorem Hs_me (hG : Good K L τ) {me bb k : Nat} (hme : me < 6) (hk : k < 13) (h : (k - 1) % 6 = me) : ¬ Hs τ me bb k := fun z => z.1 (by
  have := hG.2.2.2.1 me ((k - 1) / 6) hme (by omega)
  unfold cem
  rw [h]
  exact this)
theorem Hs_bb (hG : Good K L τ) {me bb k : Nat} (hb : bb < 6) (hk : k < 13) (h : (k - 1) % 6 = bb) : ¬ Hs τ me bb k := fun z => z.2 (by
  have := hG.2.2.2.1 bb ((k - 1) / 6) hb (by omega)
  unfold cem
  rw [h]
  exact this)
theorem bd1_s {α β : Type} (x : β) (f : β → Option α) : bd1 (some x) f = f x := rfl
theorem hsh {me bb ci cj a c : Nat} {x : Int32} (hC : Core eE μ ν σ τ) (s0 : gI σ 0 = nI me) (i1 : TL_issuerOf x = some (nI a)) (i2 : TL_currencyOf x = some (nI c)) (l1 : LN_side (nI a) (nI me) (nI c) = some (nI ci)) (l2 : LN_side (nI a) (nI bb) (nI c) = some (nI cj)) (h1 : ci < 72) (h2 : cj < 72) : TL_isHushed x (nI bb) σ = some (if gA τ 14 ci = 0 then 0 else if gA τ 14 cj = 0 then 0 else 1) := by
  unfold TL_isHushed
  rw [i1, bd1_s, i2, bd1_s, s0, l1, bd1_s, if_neg (nI_in h1 (by decide)), nI_clamp (lt31 h1), (hC.2.2.1 _ h1).2.2]
  by_cases c1 : gA τ 14 ci = 0
  · rw [if_pos c1, if_pos c1]
  · rw [if_neg c1, if_neg c1, l2, bd1_s, if_neg (nI_in h2 (by decide)), nI_clamp (lt31 h2), (hC.2.2.1 _ h2).2.2]
    by_cases c2 : gA τ 14 cj = 0
    · rw [if_pos c2, if_pos c2]
    · rw [if_neg c2, if_neg c2]
theorem cl_spend {x0 k0 a0 : Int32} {me x k bb n P d : Nat} {f b : Nat → Nat} (hC : Core eE μ ν σ τ) (hG : Good K L τ) (hR : Row τ x0 k0 a0 (nO τ) b n) (hX : CX σ me x k f b n) (hf : ∀ o, f o < 2 ^ 31) (hm : gI τ 25 = nI me) (hsx : gI τ 27 = nI x) (hme : me < 6) (hx : x < 13) (hk1 : 1 ≤ k) (hk : k < 13) (hb : bb < 6) (hd : d ≤ 400) (hP : P < 2 ^ 31) (hK : K + 400 < 2 ^ 31) : ∃ (r : Int32) (σ1 : ST), TL_spendingFor (nI bb) (nI k) (nI d) (nI P) σ = some (r, σ1) ∧ Core eE μ ν σ1 τ ∧ CX σ1 me x k f b n ∧ (Wk τ me x k bb f b n P d → r = nI (sp τ me x k bb f b n d) ∧ (x ≠ k → CP σ1 b (plA τ me x k f b n (ndc τ me bb k d)))) ∧ (¬ Wk τ me x k bb f b n P d → r = -1) := by
  have hnd := nd_le hG (me := me) (bb := bb) (k := k) hd
  have s0 : gI σ 0 = nI me := hC.1.1.trans hm
  have s2 : gI σ 2 = nI x := hC.1.2.2.1.trans hsx
  have main : Rm τ bb k d → ∃ (r : Int32) (σ1 : ST), TL_spendingFor_c38 (nI bb) (nI k) (nI d) (nI P) σ = some (r, σ1) ∧ Core eE μ ν σ1 τ ∧ CX σ1 me x k f b n ∧ (Wk τ me x k bb f b n P d → r = nI (sp τ me x k bb f b n d) ∧ (x ≠ k → CP σ1 b (plA τ me x k f b n (ndc τ me bb k d)))) ∧ (¬ Wk τ me x k bb f b n P d → r = -1) := fun hrm => by
    unfold TL_spendingFor_c38
    have q1 : ST_costOf (nI d) (nI k) (nI me) (nI bb) σ = some (nI (ndc τ me bb k d)) := ST_costOf_eq hC hG.gr (by omega) hk hme hb
    simp only [s0, q1, bd1, s2]
    by_cases c : x = k
    · have q2 : TL_isHushed (nI k) (nI bb) σ = some (if gA τ 14 (cem me k) = 0 then 0 else if gA τ 14 (cem bb k) = 0 then 0 else 1) := hsh hC s0 (TL_iss hk1 hk) (TL_cur hk1 hk) (LN_cem hme hk) (LN_cem hb hk) (cem_lt hme hk) (cem_lt hb hk)
      have esp : sp τ me x k bb f b n d = ndc τ me bb k d := if_pos c
      simp only [if_pos (show nI x = nI k by rw [c]), q2]
      by_cases c1 : Hs τ me bb k
      · rw [if_neg c1.1, if_neg c1.2, if_neg (by decide)]
        exact ⟨_, _, rfl, hC, hX, fun w => absurd c1 (w.2.elim (fun z => z.2.1) (fun z => absurd c z.1)), fun _ => rfl⟩
      · have e0 : (if gA τ 14 (cem me k) = 0 then (0 : Int32) else if gA τ 14 (cem bb k) = 0 then 0 else 1) = 0 := by
          by_cases d1 : gA τ 14 (cem me k) = 0
          · rw [if_pos d1]
          · by_cases d2 : gA τ 14 (cem bb k) = 0
            · rw [if_neg d1, if_pos d2]
            · exact absurd ⟨d1, d2⟩ c1
        rw [e0, if_pos rfl]
        by_cases c2 : ndc τ me bb k d ≤ P
        · rw [if_pos (nI_le c2 hP)]
          exact ⟨_, _, rfl, hC, hX, fun _ => ⟨by rw [esp], fun z => absurd c z⟩, fun w => absurd ⟨hrm, Or.inl ⟨c, c1, c2⟩⟩ w⟩
        · rw [if_neg (nI_ge (by omega) (by omega))]
          exact ⟨_, _, rfl, hC, hX, fun w => absurd (w.2.elim (fun z => z.2.2) (fun z => absurd c z.1)) c2, fun _ => rfl⟩
    · obtain ⟨σ1, e1, hC1, hX1, hP1⟩ := planAll_ok (t := ndc τ me bb k d) hC hG hR hX hf hme hx hk (by omega)
      have hI := (plA_I (me := me) (x := x) (k := k) (t := ndc τ me bb k d) (f := f) hG hR)
      have hn := hG.2.2.2.2.1.2.1
      have hs := hR.2.2.2
      have bT := hI.1.1.2.2.1
      have bC := hI.1.1.2.1
      have bR := hI.2
      have esp : sp τ me x k bb f b n d = zC (plA τ me x k f b n (ndc τ me bb k d)) := if_neg c
      simp only [if_neg (fun z => c ((nI_eq (show x < 2 ^ 31 by omega) (show k < 2 ^ 31 by omega)).mp z)), e1, hP1.2.1, hP1.2.2.2.1]
      by_cases c1 : zT (plA τ me x k f b n (ndc τ me bb k d)) < ndc τ me bb k d
      · rw [if_pos (nI_lt c1 (by omega))]
        exact ⟨_, _, rfl, hC1, hX1, fun w => absurd c1 (w.2.elim (fun z => absurd z.1 c) (fun z => by omega)), fun _ => rfl⟩
      · rw [if_neg (nI_nlt (by omega) (by omega))]
        by_cases c2 : zC (plA τ me x k f b n (ndc τ me bb k d)) ≤ P
        · rw [if_pos (nI_le c2 hP)]
          exact ⟨_, _, rfl, hC1, hX1, fun _ => ⟨by rw [esp], fun _ => hP1⟩, fun w => absurd ⟨hrm, Or.inr ⟨c, by omega, c2⟩⟩ w⟩
        · rw [if_neg (nI_ge (by omega) (by omega))]
          exact ⟨_, _, rfl, hC1, hX1, fun w => absurd (w.2.elim (fun z => absurd z.1 c) (fun z => z.2.2)) c2, fun _ => rfl⟩
  unfold TL_spendingFor
  simp only [TL_iss hk1 hk, bd1]
  by_cases c : (k - 1) % 6 = bb
  · rw [if_pos (by rw [c])]
    exact main (Or.inl c)
  · rw [if_neg (fun z => c ((nI_eq (by omega) (by omega)).mp z).symm)]
    have h1 := cel_lt hb hk
    have er := room_n hG h1 hd hK
    simp only [TL_cur hk1 hk, bd1, LN_cel hb hk]
    unfold LN_hasRoom
    simp only [nI_clamp (lt31 h1), if_neg (gin h1), (hC.2.2.1 _ h1).1, (hC.2.2.1 _ h1).2.1]
    by_cases c2 : Rm τ bb k d
    · have hle := c2.elim (fun z => absurd z c) id
      rw [if_neg (fun z => by
        have := Int32.lt_iff_toInt_lt.mp z
        rw [er] at this
        omega)]
      simp only [i10, if_false]
      exact main c2
    · rw [if_pos (Int32.lt_iff_toInt_lt.mpr (by
        rw [er]
        have : ¬ (gA τ 12 (cel bb k)).toInt + d ≤ (gA τ 13 (cel bb k)).toInt := fun z => c2 (Or.inr z)
        omega))]
      simp only [if_true]
      exact ⟨_, _, rfl, hC, hX, fun w => absurd w.1 c2, fun _ => rfl⟩
theorem c175 {me x C : Nat} (hG : Good K L τ) (h : FT τ τ') (hm : gI τ 25 = nI me) (hsx : gI τ 27 = nI x) {M : Nat} (hM : gI τ 28 = nI M) (hM2 : M ≤ 1000000) (hme : me < 6) (hx : x < 13) (hc : C < 2 ^ 31) : MD_spending_c175 (lN C) τ' = some (if C ≤ min M (fnd τ me x) then lN C else -1, τ') := by
  have hF := fnd_lt (τ := τ) me x
  unfold MD_spending_c175
  have q := ft_funds hG h hme hx
  simp only [h.1 28 (by decide), h.1 25 (by decide), h.1 27 (by decide), hM, hm, hsx, q, bd1, nI_l (show M < 2 ^ 31 by omega), nI_l hF]
  by_cases c1 : M < C
  · rw [if_pos ((lg_cmp_gt _ _).mpr ((pk_lLT (by omega) (by omega)).mpr c1)), if_neg (by omega)]
  · rw [if_neg (fun z => c1 ((pk_lLT (by omega) (by omega)).mp ((lg_cmp_gt _ _).mp z)))]
    by_cases c2 : fnd τ me x < C
    · rw [if_pos ((lg_cmp_gt _ _).mpr ((pk_lLT (by omega) (by omega)).mpr c2)), if_neg (by omega)]
    · rw [if_neg (fun z => c2 ((pk_lLT (by omega) (by omega)).mp ((lg_cmp_gt _ _).mp z))), if_pos (by omega)]
theorem md_spend {me x k bb n d M : Nat} {f b : Nat → Nat} (hG : Good K L τ) (h : FT τ τ0) (hR : Row τ (nI x) (nI k) (nI me) (nO τ) b n) (hf : f = fun o => fnd τ o k) (hm : gI τ 25 = nI me) (hsx : gI τ 27 = nI x) (hM : gI τ 28 = nI M) (hM2 : M ≤ 1000000) (hme : me < 6) (hx : x < 13) (hk1 : 1 ≤ k) (hk : k < 13) (hb : bb < 6) (hd : d ≤ 400) : ∃ (r : Int64) (τ1 : ST), MD_spending (nI bb) (nI k) (nI d) τ0 = some (r, τ1) ∧ FT τ τ1 ∧ (Wk τ me x k bb f b n (min M (fnd τ me x)) d → r = lN (sp τ me x k bb f b n d) ∧ (x ≠ k → MP τ1 f (plA τ me x k f b n (ndc τ me bb k d)))) ∧ (¬ Wk τ me x k bb f b n (min M (fnd τ me x)) d → r = -1) := by
  have hnd := nd_le hG (me := me) (bb := bb) (k := k) hd
  have main : Rm τ bb k d → ∃ (r : Int64) (τ1 : ST), MD_spending_c57 (nI bb) (nI k) (nI d) (nI ((k - 1) % 6)) (nI ((k - 1) / 6 + 1)) τ0 = some (r, τ1) ∧ FT τ τ1 ∧ (Wk τ me x k bb f b n (min M (fnd τ me x)) d → r = lN (sp τ me x k bb f b n d) ∧ (x ≠ k → MP τ1 f (plA τ me x k f b n (ndc τ me bb k d)))) ∧ (¬ Wk τ me x k bb f b n (min M (fnd τ me x)) d → r = -1) := fun hrm => by
    unfold MD_spending_c57
    have m25 : gI τ0 25 = nI me := (h.1 25 (by decide)).trans hm
    have m27 : gI τ0 27 = nI x := (h.1 27 (by decide)).trans hsx
    have q1 : MD_costOf (lN d) (nI me) (nI bb) (nI k) τ0 = some (lN (ndc τ me bb k d)) := ft_cost hG h (by omega) hk hme hb
    simp only [nI_l (show d < 2 ^ 31 by omega), m25, q1, bd1, m27]
    by_cases c : x = k
    · have esp : sp τ me x k bb f b n d = ndc τ me bb k d := if_pos c
      have q5 := c175 (C := ndc τ me bb k d) hG h hm hsx hM hM2 hme hx (by omega)
      have ok : ¬ Hs τ me bb k → ∃ (r : Int64) (τ1 : ST), MD_spending_c175 (lN (ndc τ me bb k d)) τ0 = some (r, τ1) ∧ FT τ τ1 ∧ (Wk τ me x k bb f b n (min M (fnd τ me x)) d → r = lN (sp τ me x k bb f b n d) ∧ (x ≠ k → MP τ1 f (plA τ me x k f b n (ndc τ me bb k d)))) ∧ (¬ Wk τ me x k bb f b n (min M (fnd τ me x)) d → r = -1) := fun hh => by
        refine ⟨_, _, q5, h, fun w => ⟨?_, fun z => absurd c z⟩, fun w => if_neg (fun z => w ⟨hrm, Or.inl ⟨c, hh, z⟩⟩)⟩
        rw [if_pos (w.2.elim (fun z => z.2.2) (fun z => absurd c z.1)), esp]
      rw [if_pos (show nI x = nI k by rw [c])]
      have hi := iss_lt k
      by_cases c1 : (k - 1) % 6 = me
      · rw [if_pos (by rw [c1])]
        exact ok (Hs_me hG hme hk c1)
      · rw [if_neg (fun z => c1 ((nI_eq (by omega) (by omega)).mp z).symm)]
        by_cases c2 : (k - 1) % 6 = bb
        · rw [if_pos (by rw [c2])]
          exact ok (Hs_bb hG hb hk c2)
        · rw [if_neg (fun z => c2 ((nI_eq (by omega) (by omega)).mp z).symm)]
          have h1 := cem_lt hme hk
          have h2 := cem_lt hb hk
          simp only [MD_cem hme hk, MD_cem hb hk, nI_clamp (lt31 h1), if_neg (gin h1), nI_clamp (lt31 h2), if_neg (gin h2), h.2.1 14 _ (by decide)]
          by_cases c3 : gA τ 14 (cem me k) = 0
          · rw [if_pos c3]
            exact ok (fun z => z.1 c3)
          · rw [if_neg c3]
            by_cases c4 : gA τ 14 (cem bb k) = 0
            · rw [if_pos c4]
              exact ok (fun z => z.2 c4)
            · rw [if_neg c4]
              exact ⟨_, _, rfl, h, fun w => absurd ⟨c3, c4⟩ (w.2.elim (fun z => z.2.1) (fun z => absurd c z.1)), fun _ => rfl⟩
    · rw [if_neg (fun z => c ((nI_eq (show x < 2 ^ 31 by omega) (show k < 2 ^ 31 by omega)).mp z)), lN_i]
      obtain ⟨τ1, e1, h1, hP1⟩ := takeA_ok (t := ndc τ me bb k d) hG h hR hm hf hme hx hk (by omega)
      have hI := (plA_I (me := me) (x := x) (k := k) (t := ndc τ me bb k d) (f := f) hG hR)
      have hn := hG.2.2.2.2.1.2.1
      have hs := hR.2.2.2
      have bT := hI.1.1.2.2.1
      have bC := hI.1.1.2.1
      have bR := hI.2
      have esp : sp τ me x k bb f b n d = zC (plA τ me x k f b n (ndc τ me bb k d)) := if_neg c
      simp only [e1, hP1.1, nI_l (show zT (plA τ me x k f b n (ndc τ me bb k d)) < 2 ^ 31 by omega), nmL, hP1.2.2.1]
      by_cases c1 : ndc τ me bb k d ≤ zT (plA τ me x k f b n (ndc τ me bb k d))
      · rw [if_pos ((lg_cmp_ge _ _).mpr ((pk_lLE (by omega) (by omega)).mpr c1)), c175 (C := zC (plA τ me x k f b n (ndc τ me bb k d))) hG h1 hm hsx hM hM2 hme hx (by omega)]
        refine ⟨_, _, rfl, h1, fun w => ⟨?_, fun _ => hP1⟩, fun w => if_neg (fun z => w ⟨hrm, Or.inr ⟨c, c1, z⟩⟩)⟩
        rw [if_pos (w.2.elim (fun z => absurd z.1 c) (fun z => z.2.2)), esp]
      · rw [if_neg (fun z => c1 ((pk_lLE (by omega) (by omega)).mp ((lg_cmp_ge _ _).mp z)))]
        exact ⟨_, _, rfl, h1, fun w => absurd (w.2.elim (fun z => absurd z.1 c) (fun z => z.2.1)) c1, fun _ => rfl⟩
  unfold MD_spending
  simp only [MD_iss hk1 hk, MD_cur hk1 hk, bd1]
  by_cases c : (k - 1) % 6 = bb
  · rw [if_pos (by rw [c])]
    exact main (Or.inl c)
  · rw [if_neg (fun z => c ((nI_eq (by omega) (by omega)).mp z).symm)]
    have h1 := cel_lt hb hk
    have hd' : d < 2 ^ 31 := by omega
    simp only [MD_cel hb hk, nI_clamp (lt31 h1), if_neg (gin h1), h.2.1 12 _ (by decide), h.2.1 13 _ (by decide)]
    have key : (lg_cmp ((gA τ 12 (cel bb k)).toInt64 + (nI d).toInt64) (gA τ 13 (cel bb k)).toInt64 ≤ 0) ↔ (gA τ 12 (cel bb k)).toInt + d ≤ (gA τ 13 (cel bb k)).toInt := by
      rw [lg_cmp_le, Int64.le_iff_toInt_le, lg_i2l_add, Int32.toInt_toInt64, nI_toInt hd']
    by_cases c2 : Rm τ bb k d
    · rw [if_pos (key.mpr (c2.elim (fun z => absurd z c) id))]
      exact main c2
    · rw [if_neg (fun z => c2 (Or.inr (key.mp z)))]
      exact ⟨_, _, rfl, h, fun w => absurd w.1 c2, fun _ => rfl⟩
/-! the greatest that works -/
def gdd (W : Nat → Bool) : Nat → Nat
  | 0 => 0
  | v + 1 => if W (v + 1) = true then v + 1 else gdd W v
theorem gdd_le {W : Nat → Bool} : ∀ v, gdd W v ≤ v
  | 0 => Nat.le_refl _
  | v + 1 => by
    show (if W (v + 1) = true then v + 1 else gdd W v) ≤ v + 1
    have := gdd_le (W := W) v
    split <;> omega
theorem gdd_w {W : Nat → Bool} : ∀ v, gdd W v ≠ 0 → W (gdd W v) = true
  | 0, h => absurd rfl h
  | v + 1, h => by
    have h' : (if W (v + 1) = true then v + 1 else gdd W v) ≠ 0 := h
    show W (if W (v + 1) = true then v + 1 else gdd W v) = true
    by_cases c : W (v + 1) = true
    · rw [if_pos c]
      exact c
    · rw [if_neg c] at h' ⊢
      exact gdd_w v h'
theorem gdd_n {W : Nat → Bool} : ∀ v d, gdd W v < d → d ≤ v → ¬ W d = true
  | 0, d, h1, h2 => by
    have : gdd W 0 = 0 := rfl
    omega
  | v + 1, d, h1, h2 => by
    have h1' : (if W (v + 1) = true then v + 1 else gdd W v) < d := h1
    by_cases c : W (v + 1) = true
    · rw [if_pos c] at h1'
      omega
    · rw [if_neg c] at h1'
      by_cases e : d = v + 1
      · rw [e]
        exact c
      · exact gdd_n v d h1' (by omega)
theorem pw2 (i : Nat) : 2 ^ (i + 1) / 2 = 2 ^ i := by
  rw [Nat.pow_succ]
  omega
theorem gd_L {x0 k0 a0 : Int32} {me x k bb n P v G : Nat} {f b : Nat → Nat} (hG : Good K L τ) (hR : Row τ x0 k0 a0 (nO τ) b n) (hf : ∀ o, f o < 2 ^ 31) (hm : gI τ 25 = nI me) (hsx : gI τ 27 = nI x) (hme : me < 6) (hx : x < 13) (hk1 : 1 ≤ k) (hk : k < 13) (hb : bb < 6) (hP : P < 2 ^ 31) (hK : K + 400 < 2 ^ 31) (hv : v ≤ 400) (hGv : G ≤ v) (hW : ∀ d, 1 ≤ d → d ≤ v → (Wk τ me x k bb f b n P d ↔ d ≤ G)) : ∀ (i N d : Nat) (σ : ST), i < N → i ≤ 9 → Core eE μ ν σ τ → CX σ me x k f b n → d ≤ G → G < d + 2 ^ i → ∃ σ1, TL_greatestDelivery_L8 N (nI bb) (nI k) (nI v) (nI P) (nI d) (nI (2 ^ i / 2)) σ = some (nI G, σ1) ∧ Core eE μ ν σ1 τ ∧ CX σ1 me x k f b n
  | 0, N + 1, d, σ, _, _, hC, hX, h1, h2 => by
    have e : d = G := by
      have : (2 : Nat) ^ 0 = 1 := rfl
      omega
    show ∃ σ1, TL_greatestDelivery_b8 _ _ _ _ _ _ _ _ = _ ∧ _
    unfold TL_greatestDelivery_b8
    rw [if_pos (show nI (2 ^ 0 / 2) ≤ 0 by decide), e]
    exact ⟨σ, rfl, hC, hX⟩
  | i + 1, N + 1, d, σ, hN, hi, hC, hX, h1, h2 => by
    have hpw : 2 ^ i ≤ 2 ^ 8 := Nat.pow_le_pow_right (by decide) (by omega)
    have hp0 : 0 < 2 ^ i := Nat.pow_pos (by decide)
    rw [Nat.pow_succ] at h2
    rw [pw2]
    generalize hst : 2 ^ i = st at *
    have hpw' : st ≤ 256 := hpw
    have ediv : nI st / 2 = nI (st / 2) := pk_div (d := 2) (by omega) (by decide) (by decide)
    show ∃ σ1, TL_greatestDelivery_b8 _ _ _ _ _ _ _ _ = _ ∧ _
    unfold TL_greatestDelivery_b8
    rw [if_neg (nI_nle hp0 (by omega)), nI_add]
    by_cases c : v < d + st
    · rw [if_pos (nI_lt c (by omega))]
      unfold TL_greatestDelivery_c46
      simp only [nmI, ediv]
      rw [← hst]
      exact gd_L hG hR hf hm hsx hme hx hk1 hk hb hP hK hv hGv hW i N d σ (by omega) (by omega) hC hX h1 (by rw [hst]; omega)
    · rw [if_neg (nI_nlt (by omega) (by omega))]
      obtain ⟨r, σ1, e1, hC1, hX1, w1, w2⟩ := cl_spend (d := d + st) hC hG hR hX hf hm hsx hme hx hk1 hk hb (by omega) hP hK
      simp only [e1, bd2]
      have hn := hG.2.2.2.2.1.2.1
      have hs := hR.2.2.2
      by_cases w : Wk τ me x k bb f b n P (d + st)
      · have hsl : sp τ me x k bb f b n (d + st) < 2 ^ 31 := by
          unfold sp
          split
          · have := nd_le hG (me := me) (bb := bb) (k := k) (show d + st ≤ 400 by omega)
            omega
          · have hI := (plA_I (me := me) (x := x) (k := k) (t := ndc τ me bb k (d + st)) (f := f) hG hR)
            have bC := hI.1.1.2.1
            have bR := hI.2
            omega
        have hr : ¬ r = -1 := by
          rw [(w1 w).1]
          exact nIm1 hsl
        rw [if_neg hr]
        unfold TL_greatestDelivery_c46
        simp only [nmI, ediv]
        have hle := (hW (d + st) (by omega) (by omega)).mp w
        rw [← hst]
        rw [← hst] at hle
        exact gd_L hG hR hf hm hsx hme hx hk1 hk hb hP hK hv hGv hW i N (d + 2 ^ i) σ1 (by omega) (by omega) hC1 hX1 hle (by rw [hst]; omega)
      · rw [if_pos (w2 w)]
        unfold TL_greatestDelivery_c46
        simp only [nmI, ediv]
        have hle : ¬ d + st ≤ G := fun z => w ((hW (d + st) (by omega) (by omega)).mpr z)
        rw [← hst]
        exact gd_L hG hR hf hm hsx hme hx hk1 hk hb hP hK hv hGv hW i N d σ1 (by omega) (by omega) hC1 hX1 h1 (by rw [hst]; omega)
/-- the reference's way on, once d works -/
def pt (x1 x2 x6 : Int32) (r : Int64) (τ : ST) : Option (Int32 × ST) := if (gI τ 27) = x2 then (MD_pay_c127 x1 x2 x6 r τ) else (bd1 (MD_carryOut (gI τ 27) x2 τ) fun σ124 => MD_pay_c127 x1 x2 x6 r σ124)
theorem b86 {kb : Int32 → Int32 → Int32 → Int32 → ST → Option (Int32 × ST)} {me x k bb n d lo M : Nat} {f b : Nat → Nat} (hG : Good K L τ) (h : FT τ τ0) (hR : Row τ (nI x) (nI k) (nI me) (nO τ) b n) (hf : f = fun o => fnd τ o k) (hm : gI τ 25 = nI me) (hsx : gI τ 27 = nI x) (hM : gI τ 28 = nI M) (hM2 : M ≤ 1000000) (hme : me < 6) (hx : x < 13) (hk1 : 1 ≤ k) (hk : k < 13) (hb : bb < 6) (hd : d ≤ 400) (hlo : lo ≤ d) : ∃ τ1, FT τ τ1 ∧ (Wk τ me x k bb f b n (min M (fnd τ me x)) d → MD_pay_b86 kb (nI bb) (nI k) (nI lo) (nI d) τ0 = pt (nI bb) (nI k) (nI d) (lN (sp τ me x k bb f b n d)) τ1 ∧ (x ≠ k → MP τ1 f (plA τ me x k f b n (ndc τ me bb k d)))) ∧ (¬ Wk τ me x k bb f b n (min M (fnd τ me x)) d → MD_pay_b86 kb (nI bb) (nI k) (nI lo) (nI d) τ0 = kb (nI bb) (nI k) (nI lo) (nI d + (-1)) τ1) := by
  obtain ⟨r, τ1, e1, h1, w1, w2⟩ := md_spend (d := d) hG h hR hf hm hsx hM hM2 hme hx hk1 hk hb hd
  have hn := hG.2.2.2.2.1.2.1
  have hs := hR.2.2.2
  refine ⟨τ1, h1, fun w => ⟨?_, (w1 w).2⟩, fun w => ?_⟩
  · have hsl : sp τ me x k bb f b n d < 2 ^ 31 := by
      unfold sp
      split
      · have := nd_le hG (me := me) (bb := bb) (k := k) hd
        omega
      · have hI := (plA_I (me := me) (x := x) (k := k) (t := ndc τ me bb k d) (f := f) hG hR)
        have bC := hI.1.1.2.1
        have bR := hI.2
        omega
    unfold MD_pay_b86
    rw [if_neg (nI_nlt hlo (by omega)), e1, (w1 w).1]
    simp only [bd2]
    rw [if_neg (fun z => by
      have := (pk_lLT (b := 0) (by omega) (by decide)).mp ((lg_cmp_lt _ _).mp z)
      omega)]
    rfl
  · unfold MD_pay_b86
    rw [if_neg (nI_nlt hlo (by omega)), e1, w2 w]
    simp only [bd2]
    rw [if_pos (by decide)]
theorem dn_L {me x k bb n M : Nat} {f b : Nat → Nat} {W : Nat → Bool} (hG : Good K L τ) (hR : Row τ (nI x) (nI k) (nI me) (nO τ) b n) (hf : f = fun o => fnd τ o k) (hm : gI τ 25 = nI me) (hsx : gI τ 27 = nI x) (hM : gI τ 28 = nI M) (hM2 : M ≤ 1000000) (hme : me < 6) (hx : x < 13) (hk1 : 1 ≤ k) (hk : k < 13) (hb : bb < 6) (hW : ∀ d, W d = true ↔ Wk τ me x k bb f b n (min M (fnd τ me x)) d) : ∀ (v N : Nat) (τ0 : ST), v < N → v ≤ 400 → FT τ τ0 → ∃ τ1, FT τ τ1 ∧ (gdd W v = 0 → MD_pay_L86 N (nI bb) (nI k) 1 (nI v) τ0 = some (24, τ1)) ∧ (gdd W v ≠ 0 → MD_pay_L86 N (nI bb) (nI k) 1 (nI v) τ0 = pt (nI bb) (nI k) (nI (gdd W v)) (lN (sp τ me x k bb f b n (gdd W v))) τ1 ∧ (x ≠ k → MP τ1 f (plA τ me x k f b n (ndc τ me bb k (gdd W v)))))
  | 0, N + 1, τ0, _, _, h => by
    refine ⟨τ0, h, fun _ => ?_, fun z => absurd rfl z⟩
    show MD_pay_b86 _ _ _ _ _ _ = _
    unfold MD_pay_b86
    rw [if_pos (by decide)]
  | v + 1, N + 1, τ0, hN, hv, h => by
    obtain ⟨τ1, h1, w1, w2⟩ := b86 (kb := fun x1 x2 x5 x6 σ => MD_pay_L86 N x1 x2 x5 x6 σ) (d := v + 1) (lo := 1) hG h hR hf hm hsx hM hM2 hme hx hk1 hk hb hv (by omega)
    have e : gdd W (v + 1) = if W (v + 1) = true then v + 1 else gdd W v := rfl
    by_cases c : W (v + 1) = true
    · rw [e, if_pos c]
      refine ⟨τ1, h1, fun z => absurd z (by omega), fun _ => ?_⟩
      exact w1 ((hW _).mp c)
    · rw [e, if_neg c]
      obtain ⟨τ2, h2, y1, y2⟩ := dn_L hG hR hf hm hsx hM hM2 hme hx hk1 hk hb hW v N τ1 (by omega) (by omega) h1
      have w3 := w2 (fun z => c ((hW _).mpr z))
      rw [pk_m1] at w3
      refine ⟨τ2, h2, fun z => ?_, fun z => ?_⟩
      · exact w3.trans (y1 z)
      · exact ⟨w3.trans (y2 z).1, (y2 z).2⟩
theorem FT.pb {f b : Nat → Nat} {s : PZ} (h : FT τ τ') (hB : PB τ f b s) : PB τ' f b s := by
  unfold PB at hB ⊢
  rw [h.eG, h.ePrc, h.eOw, h.eW]
  exact hB
/-- both pay d -/
theorem pay_end {me x k bb n d : Nat} {f b : Nat → Nat} {τ1 : ST} (hC : Core eE μ ν σ τ) (hG : Good K L τ) (h : FT τ τ1) (hR : Row τ (nI x) (nI k) (nI me) (nO τ) b n) (hX : CX σ me x k f b n) (hf : ∀ o, f o < 2 ^ 31) (hm : gI τ 25 = nI me) (hsx : gI τ 27 = nI x) (hme : me < 6) (hx : x < 13) (hk : k < 13) (hb : bb < 6) (hd : d ≤ 400) (hP : x ≠ k → CP σ b (plA τ me x k f b n (ndc τ me bb k d))) (hM : x ≠ k → MP τ1 f (plA τ me x k f b n (ndc τ me bb k d))) (hK : K + 4189000 < 2 ^ 31) : ∃ (r : Int32) (σ2 τ2 : ST), TL_pay_c148 (nI bb) (nI k) (nI d) (nI (sp τ me x k bb f b n d)) σ = some (r, σ2) ∧ pt (nI bb) (nI k) (nI d) (lN (sp τ me x k bb f b n d)) τ1 = some (r, τ2) ∧ Core eE μ ν σ2 τ2 ∧ Good (K + 4189000) L τ2 := by
  have hn := hG.2.2.2.2.1.2.1
  have hs := hR.2.2.2
  have hI := (plA_I (me := me) (x := x) (k := k) (t := ndc τ me bb k d) (f := f) hG hR)
  have hsl : sp τ me x k bb f b n d ≤ 1440100 := by
    unfold sp
    split
    · have := nd_le hG (me := me) (bb := bb) (k := k) hd
      omega
    · have bC := hI.1.1.2.1
      have bR := hI.2
      omega
  have hC1 := core_ft h hC
  have hG1 := good_ft h hG
  have s2 : gI σ 2 = nI x := hC.1.2.2.1.trans hsx
  have fin : ∀ (σ3 τ3 : ST) (K3 : Nat), Core eE μ ν σ3 τ3 → Good K3 L τ3 → K3 ≤ K + 2640100 → gI τ3 25 = nI me → gI τ3 27 = nI x → ∃ (r : Int32) (σ2 τ2 : ST), TL_pay_c174 (nI bb) (nI k) (nI d) (nI (sp τ me x k bb f b n d)) σ3 = some (r, σ2) ∧ MD_pay_c127 (nI bb) (nI k) (nI d) (lN (sp τ me x k bb f b n d)) τ3 = some (r, τ2) ∧ Core eE μ ν σ2 τ2 ∧ Good (K + 4189000) L τ2 := fun σ3 τ3 K3 hC3 hG3 hK3 m25 m27 => by
    have t0 : gI σ3 0 = nI me := hC3.1.1.trans m25
    have t2 : gI σ3 2 = nI x := hC3.1.2.2.1.trans m27
    obtain ⟨σ4, e4, hC4, hF4⟩ := s_chg (v := -(nI (sp τ me x k bb f b n d))) hC3 hme hx
    obtain ⟨σ5, e5, hC5, hF5⟩ := s_chg (v := nI d) hC4 hb hk
    unfold TL_pay_c174 MD_pay_c127
    simp only [t0, t2, e4, e5, bd1, m25, m27, MD_change_eq hme hx, lneg, nI_l (show d < 2 ^ 31 by omega), MD_change_eq hb hk, lN_i]
    refine ⟨_, _, _, rfl, rfl, hC5, ?_⟩
    have g4 : Good (K3 + 1440100) L _ := g_change hG3 hme hx ((Ab_nI (show sp τ me x k bb f b n d ≤ 1440100 from hsl) (by omega)).neg (by decide)) (by omega)
    have g5 := g_change (D := 400) g4 hb hk (Ab_nI hd (by omega)) (by omega)
    exact g5.mono (by omega) (Nat.le_refl _)
  unfold TL_pay_c148 pt
  rw [if_neg (nIm1 (by omega)), s2, (h.1 27 (by decide)).trans hsx]
  by_cases c : x = k
  · rw [if_pos (by rw [c]), if_pos (by rw [c])]
    exact fin σ τ1 K hC1 hG1 (by omega) ((h.1 25 (by decide)).trans hm) ((h.1 27 (by decide)).trans hsx)
  · have hne : ¬ nI x = nI k := fun z => c ((nI_eq (show x < 2 ^ 31 by omega) (show k < 2 ^ 31 by omega)).mp z)
    have hR1 : Row τ1 (nI x) (nI k) (nI me) (nO τ1) b n := by rw [h.eNO]; exact h.row hR
    obtain ⟨σ2, τ2, e1, e2, hC2, hG2, hP2, i2, l2⟩ := carry_ok hC1 hG1 hR1 hX (hP c) (hM c) (h.pb hI.1.1) hI.2 hf ((h.1 25 (by decide)).trans hm) hme hx hk (by omega)
    rw [if_neg hne, if_neg hne, e1, e2]
    simp only [bd1]
    exact fin σ2 τ2 (K + 2640100) hC2 hG2 (by omega) (((i2 25 (by decide)).trans (h.1 25 (by decide))).trans hm) (((i2 27 (by decide)).trans (h.1 27 (by decide))).trans hsx)
theorem TL_pay_y {x1 x2 x3 : Int32} (hC : Core eE μ ν σ τ) (h1 : 0 ≤ x1 ∧ x1 ≤ 5) (h2 : x1 ≠ gI τ 25) (h3 : 0 ≤ x2 ∧ x2 ≤ 12) (h4 : x2 ≠ 0) (h5 : 1 ≤ x3 ∧ x3 ≤ 400) : TL_pay x1 x2 x3 σ = TL_pay_c36 x1 x2 x3 1 σ := by
  unfold TL_pay
  simp only [TL_isOther_eq hC, TL_isAsset_eq, TL_isWithin_eq, bd1, if_pos (show (0 ≤ x1 ∧ x1 ≤ 5) ∧ x1 ≠ gI τ 25 from ⟨h1, h2⟩), if_pos h3, if_neg h4, if_pos h5, i10, if_false]
theorem TL_pay_n {x1 x2 x3 : Int32} (hC : Core eE μ ν σ τ) (h : ¬ ((0 ≤ x1 ∧ x1 ≤ 5) ∧ x1 ≠ gI τ 25 ∧ (0 ≤ x2 ∧ x2 ≤ 12) ∧ x2 ≠ 0 ∧ (1 ≤ x3 ∧ x3 ≤ 400))) : TL_pay x1 x2 x3 σ = TL_pay_c36 x1 x2 x3 0 σ := by
  unfold TL_pay
  simp only [TL_isOther_eq hC, TL_isAsset_eq, TL_isWithin_eq, bd1]
  by_cases h1 : (0 ≤ x1 ∧ x1 ≤ 5) ∧ x1 ≠ gI τ 25
  · simp only [if_pos h1, i10, if_false]
    by_cases h3 : 0 ≤ x2 ∧ x2 ≤ 12
    · simp only [if_pos h3, i10, if_false]
      by_cases h4 : x2 = 0
      · simp only [if_pos h4]
      · simp only [if_neg h4]
        by_cases h5 : 1 ≤ x3 ∧ x3 ≤ 400
        · exact absurd ⟨h1.1, h1.2, h3, h4, h5⟩ h
        · simp only [if_neg h5, i00, if_true]
    · simp only [if_neg h3, i00, if_true]
  · simp only [if_neg h1, i00, if_true]
theorem pos1 {x : Int32} : (0 ≤ x ∧ x ≠ 0) ↔ 1 ≤ x := by
  have e0 : (0 : Int32).toInt = 0 := by decide
  have e1 : (1 : Int32).toInt = 1 := by decide
  rw [Int32.le_iff_toInt_le, Int32.le_iff_toInt_le, e0, e1]
  constructor
  · intro z
    have : x.toInt ≠ 0 := fun y => z.2 (Int32.toInt_inj.mp (y.trans e0.symm))
    omega
  · intro z
    exact ⟨by omega, fun y => by rw [y, e0] at z; omega⟩
theorem MD_pay_y {x1 x2 x3 : Int32} (h1 : 0 ≤ x1 ∧ x1 ≤ 5) (h2 : x1 ≠ gI τ 25) (h3 : 0 ≤ x2 ∧ x2 ≤ 12) (h4 : x2 ≠ 0) (h5 : 1 ≤ x3 ∧ x3 ≤ 400) : MD_pay x1 x2 x3 τ = MD_pay_c44 x1 x2 x3 1 τ := by
  unfold MD_pay
  have h6 : ¬ x2 < 1 := Int32.not_lt.mpr (pos1.mp ⟨h3.1, h4⟩)
  simp only [MD_isAccount_eq, bd1, if_pos h1, i10, if_false, if_neg h2, if_neg h6, if_neg (Int32.not_lt.mpr h3.2), if_neg (Int32.not_lt.mpr h5.1), if_neg (Int32.not_lt.mpr h5.2)]
theorem MD_pay_n {x1 x2 x3 : Int32} (h : ¬ ((0 ≤ x1 ∧ x1 ≤ 5) ∧ x1 ≠ gI τ 25 ∧ (0 ≤ x2 ∧ x2 ≤ 12) ∧ x2 ≠ 0 ∧ (1 ≤ x3 ∧ x3 ≤ 400))) : MD_pay x1 x2 x3 τ = MD_pay_c44 x1 x2 x3 0 τ := by
  unfold MD_pay
  simp only [MD_isAccount_eq, bd1]
  by_cases h1 : 0 ≤ x1 ∧ x1 ≤ 5
  · simp only [if_pos h1, i10, if_false]
    by_cases h2 : x1 = gI τ 25
    · simp only [if_pos h2]
    · simp only [if_neg h2]
      by_cases h3 : x2 < 1
      · simp only [if_pos h3]
      · simp only [if_neg h3]
        by_cases h4 : 12 < x2
        · simp only [if_pos h4]
        · simp only [if_neg h4]
          by_cases h5 : x3 < 1
          · simp only [if_pos h5]
          · simp only [if_neg h5]
            by_cases h6 : 400 < x3
            · simp only [if_pos h6]
            · have h7 := pos1.mpr (Int32.not_lt.mp h3)
              exact absurd ⟨h1, h2, ⟨h7.1, Int32.not_lt.mp h4⟩, h7.2, Int32.not_lt.mp h5, Int32.not_lt.mp h6⟩ h
  · simp only [if_neg h1, i00, if_true]
theorem s_pay {x1 x2 x3 : Int32} (hC : Core eE μ ν σ τ) (hG : Good K L τ) (hK : K + 4190000 < 2 ^ 31) : ∃ (r : Int32) (σ1 τ1 : ST), TL_pay x1 x2 x3 σ = some (r, σ1) ∧ MD_pay x1 x2 x3 τ = some (r, τ1) ∧ Core eE μ ν σ1 τ1 ∧ Good (K + 4189500) L τ1 := by
  by_cases g : (0 ≤ x1 ∧ x1 ≤ 5) ∧ x1 ≠ gI τ 25 ∧ (0 ≤ x2 ∧ x2 ≤ 12) ∧ x2 ≠ 0 ∧ (1 ≤ x3 ∧ x3 ≤ 400)
  · obtain ⟨h1, h2, h3, h4, h5⟩ := g
    rw [TL_pay_y hC h1 h2 h3 h4 h5, MD_pay_y h1 h2 h3 h4 h5]
    unfold TL_pay_c36 MD_pay_c44
    obtain ⟨r, σ1, τ1, t1, t2, hC1, hG1, h0⟩ := s_charge 1 hC hG (by omega)
    have hG1' : Good (K + 4189500) L τ1 := hG1.mono (by omega) (Nat.le_refl _)
    simp only [bd2, t1, t2]
    by_cases hr : r = 0
    · obtain ⟨_, me, hme, hm, hm', h8⟩ := h0 hr
      obtain ⟨bb, hb, rfl⟩ := acct_of h1
      obtain ⟨k, hk, rfl⟩ := asset_of h3
      obtain ⟨v, hv1, hv2, rfl⟩ := rng_of (M := 400) (n := 400) (by decide) h5
      have hk1 : 1 ≤ k := Nat.one_le_iff_ne_zero.mpr (fun z => h4 (by rw [z]; decide))
      obtain ⟨r1, r2⟩ := acc_rd hC1 hb
      rw [nI_clamp (lt31 hb)] at r1
      simp only [if_pos hr, nI_clamp (lt31 hb), if_neg (gin hb), r1, bd1, gd_ok r2, ex_rd hC1 hb]
      by_cases h80 : gA τ1 8 bb = 0
      · simp only [if_pos h80]
        exact ⟨_, _, _, rfl, rfl, hC1, hG1'⟩
      · simp only [if_neg h80]
        obtain ⟨_, ⟨x, hx, hsx⟩, ⟨M, hM1, hM2, hM⟩, hpt⟩ := hG1.1
        have s2 : gI σ1 2 = nI x := hC1.1.2.2.1.trans hsx
        rw [hm', s2]
        obtain ⟨σ2, b, n, e2, hC2, hR, hX⟩ := open_ok (me := me) (x := x) hC1 hG1 hk
        have u0 : gI σ2 0 = nI me := hC2.1.1.trans hm
        have u2 : gI σ2 2 = nI x := hC2.1.2.2.1.trans hsx
        have u3 : gI σ2 3 = nI M := hC2.1.2.2.2.1.trans hM
        have u4 : gI σ2 4 = gI τ1 29 := hC2.1.2.2.2.2.1
        have hF := fnd_lt (τ := τ1) me x
        have hff : ∀ o, (fun o => fnd τ1 o k) o < 2 ^ 31 := fun o => fnd_lt o k
        have hMl : min M (fnd τ1 me x) < 2 ^ 31 := by omega
        simp only [e2, bd1, u0, u2, u3, u4, ST_fundsOf_eq hC2 hG1 hme hx, nmI, imin_eq (show M < 2 ^ 31 by omega) hF]
        generalize hPd : min M (fnd τ1 me x) = P at *
        have hKK : K + 10 + 400 < 2 ^ 31 := by omega
        have hKE : K + 10 + 4189000 < 2 ^ 31 := by omega
        -- from a d that is paid
        have go : ∀ (σ3 : ST) (d : Nat), 1 ≤ d → d ≤ 400 → Core eE μ ν σ3 τ1 → CX σ3 me x k (fun o => fnd τ1 o k) b n → Wk τ1 me x k bb (fun o => fnd τ1 o k) b n P d → ∀ τ3, FT τ1 τ3 → (x ≠ k → MP τ3 (fun o => fnd τ1 o k) (plA τ1 me x k (fun o => fnd τ1 o k) b n (ndc τ1 me bb k d))) → ∃ (r : Int32) (σ4 τ4 : ST), TL_pay_c127 (nI bb) (nI k) (nI P) (nI d) σ3 = some (r, σ4) ∧ pt (nI bb) (nI k) (nI d) (lN (sp τ1 me x k bb (fun o => fnd τ1 o k) b n d)) τ3 = some (r, τ4) ∧ Core eE μ ν σ4 τ4 ∧ Good (K + 4189500) L τ4 := fun σ3 d hd1 hd2 hC3 hX3 w τ3 hT3 hM3 => by
          obtain ⟨rr, σ4, e4, hC4, hX4, w1, _⟩ := cl_spend (d := d) hC3 hG1 hR hX3 hff hm hsx hme hx hk1 hk hb hd2 hMl hKK
          unfold TL_pay_c127
          rw [if_neg (nI_nle (by omega) (by omega)), e4]
          simp only [bd2]
          rw [(w1 w).1]
          obtain ⟨r5, σ5, τ5, e5, e6, hC5, hG5⟩ := pay_end hC4 hG1 hT3 hR hX4 hff hm hsx hme hx hk hb hd2 (w1 w).2 hM3 hKE
          exact ⟨r5, σ5, τ5, e5, e6, hC5, hG5.mono (by omega) (Nat.le_refl _)⟩
        rcases hpt with hp0 | hp1
        · -- all or nothing
          rw [hp0]
          simp only [i00, if_true]
          obtain ⟨N, hN⟩ : ∃ N, FU = N + 1 + 1 := ⟨998, rfl⟩
          rw [hN]
          have hb86 := b86 (kb := fun x1 x2 x5 x6 σ => MD_pay_L86 (N + 1) x1 x2 x5 x6 σ) (d := v) (lo := v) hG1 (FT.refl τ1) hR rfl hm hsx hM hM2 hme hx hk1 hk hb hv2 (Nat.le_refl _)
          rw [hPd] at hb86
          obtain ⟨τ3, hT3, w1, w2⟩ := hb86
          have eL : MD_pay_L86 (N + 1 + 1) (nI bb) (nI k) (nI v) (nI v) τ1 = MD_pay_b86 (fun x1 x2 x5 x6 σ => MD_pay_L86 (N + 1) x1 x2 x5 x6 σ) (nI bb) (nI k) (nI v) (nI v) τ1 := rfl
          rw [eL]
          by_cases w : Wk τ1 me x k bb (fun o => fnd τ1 o k) b n P v
          · obtain ⟨w3, w4⟩ := w1 w
            rw [w3]
            exact go σ2 v hv1 hv2 hC2 hX w τ3 hT3 w4
          · rw [w2 w]
            obtain ⟨rr, σ4, e4, hC4, hX4, _, w5⟩ := cl_spend (d := v) hC2 hG1 hR hX hff hm hsx hme hx hk1 hk hb hv2 hMl hKK
            unfold TL_pay_c127
            rw [if_neg (nI_nle (by omega) (by omega)), e4]
            simp only [bd2]
            rw [w5 w]
            unfold TL_pay_c148
            rw [if_pos rfl]
            have eL2 : MD_pay_L86 (N + 1) (nI bb) (nI k) (nI v) (nI v + (-1)) τ3 = MD_pay_b86 (fun x1 x2 x5 x6 σ => MD_pay_L86 N x1 x2 x5 x6 σ) (nI bb) (nI k) (nI v) (nI v + (-1)) τ3 := rfl
            have em : nI v + (-1) = nI (v - 1) := by
              obtain ⟨u, rfl⟩ : ∃ u, v = u + 1 := ⟨v - 1, by omega⟩
              rw [pk_m1]
              rfl
            rw [eL2, em]
            unfold MD_pay_b86
            rw [if_pos (nI_lt (by omega) (by omega))]
            exact ⟨_, _, _, rfl, rfl, core_ft hT3 hC4, good_ft hT3 hG1'⟩
        · -- in part
          rw [hp1]
          simp only [i10, if_false]
          have hdec : ∃ W : Nat → Bool, ∀ d, W d = true ↔ Wk τ1 me x k bb (fun o => fnd τ1 o k) b n P d := ⟨fun d => @decide (Wk τ1 me x k bb (fun o => fnd τ1 o k) b n P d) (Classical.propDecidable _), fun d => @decide_eq_true_iff _ (Classical.propDecidable _)⟩
          obtain ⟨W, hW⟩ := hdec
          have hGl := gdd_le (W := W) v
          have hWG : ∀ d, 1 ≤ d → d ≤ v → (Wk τ1 me x k bb (fun o => fnd τ1 o k) b n P d ↔ d ≤ gdd W v) := fun d h1 h2 => by
            constructor
            · intro w
              apply Nat.le_of_not_lt
              intro z
              exact gdd_n v d z h2 ((hW d).mpr w)
            · intro z
              exact Wk_mn ((hW _).mp (gdd_w v (by omega))) z
          have hdn := dn_L (W := W) hG1 hR rfl hm hsx hM hM2 hme hx hk1 hk hb (by rw [hPd]; exact hW) v FU τ1 (by rw [FUv]; omega) hv2 (FT.refl τ1)
          obtain ⟨τ3, hT3, y1, y2⟩ := hdn
          obtain ⟨σ3, e3, hC3, hX3⟩ := gd_L (G := gdd W v) hG1 hR hff hm hsx hme hx hk1 hk hb hMl hKK hv2 hGl hWG 9 FU 0 σ2 (by rw [FUv]; decide) (by decide) hC2 hX (Nat.zero_le _) (by omega)
          rw [nI_0, show nI (2 ^ 9 / 2) = 256 by decide] at e3
          unfold TL_greatestDelivery
          rw [e3]
          simp only [bd2]
          by_cases z : gdd W v = 0
          · rw [y1 z, z]
            unfold TL_pay_c127
            rw [if_pos (by decide)]
            unfold TL_pay_c148
            rw [if_pos rfl]
            exact ⟨_, _, _, rfl, rfl, core_ft hT3 hC3, good_ft hT3 hG1'⟩
          · rw [(y2 z).1]
            exact go σ3 (gdd W v) (by omega) (by omega) hC3 hX3 ((hW _).mp (gdd_w v z)) τ3 hT3 (y2 z).2
    · simp only [if_neg hr]
      exact ⟨r, _, _, rfl, rfl, hC1, hG1'⟩
  · rw [TL_pay_n hC g, MD_pay_n g]
    unfold TL_pay_c36 MD_pay_c44
    simp only [TL_charge0, MD_begin0, bd2, im10, if_false]
    exact ⟨_, _, _, rfl, rfl, hC, hG.mono (by omega) (Nat.le_refl _)⟩
end PAY
