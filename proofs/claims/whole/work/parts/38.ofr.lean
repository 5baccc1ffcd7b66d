section OFR
variable {eE : Nat × Nat} {μ ν σ σ' τ τ' τ0 : ST} {K L : Nat}
abbrev RO : Type := Int32 × ST × Option (Int32 × Int32 × Int32 × Int32 × Int32)
def OffOk (eE : Nat × Nat) (μ ν : ST) (K L : Nat) (F : Option RO) (G : Option (Int32 × ST)) : Prop := ∃ (res : RO) (r : Int32) (τ1 : ST), F = some res ∧ G = some (r, τ1) ∧ (res.2.2 ≠ none → gI res.2.1 18 = nI (gI res.2.1 18).toNatClampNeg ∧ (gI res.2.1 18).toNatClampNeg ≤ 14 ∧ LOk 0 2 eE res.2.1 (gI res.2.1 18).toNatClampNeg) ∧ (∀ v σ', POffer eE.1 (gI res.2.1 18).toNatClampNeg res v σ' → v = some (.int r) ∧ Core eE μ ν σ' τ1) ∧ Good K L τ1
theorem off_none {r : Int32} (h : Core eE μ ν σ' τ') (hG : Good K L τ') : OffOk eE μ ν K L (some (r, σ', none)) (some (r, τ')) := by
  refine ⟨_, _, _, rfl, rfl, fun z => absurd rfl z, fun v σ1 hv => ?_, hG⟩
  obtain ⟨h1, h2⟩ := hv
  rw [h1, h2]
  exact ⟨rfl, h⟩
theorem plcO_ok {x1 x2 x3 x4 x5 : Int32} : plcO τ x1 x2 x3 x4 x5 (sI (sA (sA (sA (sA (sA (sA (sI τ 22 (gI τ 22 + 1)) 15 (nO τ) (gI τ 22 + 1)) 16 (nO τ) x1) 17 (nO τ) x2) 18 (nO τ) x4) 19 (nO τ) x3) 20 (nO τ) x5) 21 (nI (nO τ) + 1)) := by
  refine ⟨rfl, ?_, fun i h1 h2 => ?_, fun b i hb => ?_, ?_, rfl, rfl⟩
  · rw [gI_sI, if_pos rfl, nI_1]
  · rw [gI_sI, if_neg h2]
    simp only [gI_sA, gI_sI, if_neg h1]
  · rw [gA_sI]
    rcases hb with hb | hb
    · rw [gA_ne (by omega), gA_ne (by omega), gA_ne (by omega), gA_ne (by omega), gA_ne (by omega), gA_ne (by omega), gA_sI]
    · simp only [gA_sA, if_neg hb, gA_sI, ite_self]
  · simp only [gA_sI, gA_sA, reduceIte, Nat.reduceEqDiff]
    exact ⟨trivial, trivial, trivial, trivial, trivial, trivial⟩
theorem place_eq {x1 x2 x3 x4 : Int32} (hG : Good K L τ) (hn : nO τ < 12) : MD_place x1 x2 x3 x4 τ = some (sI (sA (sA (sA (sA (sA (sA (sI τ 22 (gI τ 22 + 1)) 15 (nO τ) (gI τ 22 + 1)) 16 (nO τ) (gI τ 25)) 17 (nO τ) x1) 18 (nO τ) x3) 19 (nO τ) x2) 20 (nO τ) x4) 21 (nI (nO τ) + 1)) := by
  have g21 := hG.2.2.2.2.1.1
  unfold MD_place
  simp only [nmS, gI_sA, gI_sI, reduceIte, Nat.reduceEqDiff, g21, nI_clamp (show nO τ < 2 ^ 31 by omega), if_neg (gin hn)]
theorem gI_chg {a k j : Nat} {v : Int32} : gI (chg τ a k v) j = gI τ j := by
  unfold chg
  split
  · rfl
  · split <;> rfl
theorem gL_chg {a k j : Nat} {v : Int32} : gL (chg τ a k v) j = gL τ j := by
  unfold chg
  split
  · rfl
  · split <;> rfl
theorem can_eq {me : Nat} {y : Int32} (hC : Core eE μ ν σ τ) (hG : Good K L τ) (hm : gI τ 25 = nI me) (hme : me < 6) (hK : K + 1100000 < 2 ^ 31) : TL_canPlace y σ = some (if (12 : Int32) ≤ nI (nO τ) - y then 0 else if (gA τ 9 me).toInt < ((120 + 20 * pcs τ me : Nat) : Int) then 0 else 1) := by
  have s0 : gI σ 0 = nI me := hC.1.1.trans hm
  have af := ST_afford_eq (v := 0) hC hG hme (by omega) hK
  rw [show nI 0 = 0 by decide] at af
  unfold TL_canPlace
  simp only [szO hC hG, bd1, s0, af]
  by_cases c1 : (12 : Int32) ≤ nI (nO τ) - y
  · rw [if_pos c1, if_pos c1]
  · rw [if_neg c1, if_neg c1]
    by_cases c2 : (gA τ 9 me).toInt < ((120 + 20 * pcs τ me : Nat) : Int)
    · rw [if_pos (show (gA τ 9 me).toInt - ((0 : Nat) : Int) < ((120 + 20 * pcs τ me : Nat) : Int) by omega), if_pos c2, if_pos rfl]
    · rw [if_neg (show ¬ (gA τ 9 me).toInt - ((0 : Nat) : Int) < ((120 + 20 * pcs τ me : Nat) : Int) by omega), if_neg c2, if_neg (by decide)]
/-- both carry out, and place what is left -/
theorem ofr_end {me x k n w0 g0 : Nat} {f b : Nat → Nat} {s : PZ} {x5 x8 : Int32} (hC : Core eE μ ν σ τ) (hG : Good K L τ) (hR : Row τ (nI x) (nI k) (nI me) (nO τ) b n) (hX : CX σ me x k f b n) (hP : CP σ b s) (hM : MP τ f s) (hB : PB τ f b s) (hr : zR s ≤ n) (hf : ∀ o, f o < 2 ^ 31) (hm : gI τ 25 = nI me) (hme : me < 6) (hx : x < 13) (hk : k < 13) (hw : w0 ≤ 100000) (hg : g0 ≤ 100000) (h2 : zT s ≤ w0) (h3 : zP s ≤ g0) (h8 : x8 = if x5 = 0 ∧ zT s < w0 ∧ zP s < g0 then 1 else 0) (hL : L + 1 < 2 ^ 31) (hK : K + 5280500 < 2 ^ 31) : OffOk eE μ ν (K + 4189000) (L + 1) (TL_offer_c179 (nI k) (nI w0) (nI x) (nI g0) x5 σ) (MD_offer_c266 (nI k) (nI w0) (nI x) (nI g0) x8 τ) := by
  have hn := hG.2.2.2.2.1.2.1
  have hs := hR.2.2.2
  have bC := hB.2.1
  obtain ⟨σ3, τ3, e1, e2, hC3, hG3, hP3, i3, l3⟩ := carry_ok hC hG hR hX hP hM hB hr hf hm hme hx hk (by omega)
  have m25 : gI τ3 25 = nI me := (i3 25 (by decide)).trans hm
  have m32 : gI τ3 32 = nI (zT s) := (i3 32 (by decide)).trans hM.1
  have l0 : gL τ3 0 = lN (zP s) := by
    unfold gL
    rw [l3]
    exact hM.2.1
  have l1 : gL τ3 1 = lN (zC s) := by
    unfold gL
    rw [l3]
    exact hM.2.2.1
  have t0 : gI σ3 0 = nI me := hC3.1.1.trans m25
  obtain ⟨σ4, e4, hC4, hF4⟩ := s_chg (v := -(nI (zC s))) hC3 hme hx
  have t4 : gI σ4 0 = nI me := (hF4.1 0).trans t0
  obtain ⟨σ5, e5, hC5, hF5⟩ := s_chg (v := nI (zT s)) hC4 hme hk
  have hP5 := (hF4.trans hF5).cp hP3
  have hP4 := hF4.cp hP3
  have t5 : gI σ5 0 = nI me := (hF5.1 0).trans t4
  have g4 : Good (K + 2640100 + 1440100) L (chg τ3 me x (-(nI (zC s)))) := g_change hG3 hme hx ((Ab_nI (show zC s ≤ 1440100 by omega) (by omega)).neg (by decide)) (by omega)
  have g5 := g_change (D := 100000) g4 hme hk (Ab_nI (show zT s ≤ 100000 by omega) (by omega)) (by omega)
  have m5 : gI (chg (chg τ3 me x (-(nI (zC s)))) me k (nI (zT s))) 25 = nI me := by rw [gI_chg, gI_chg]; exact m25
  have m532 : gI (chg (chg τ3 me x (-(nI (zC s)))) me k (nI (zT s))) 32 = nI (zT s) := by rw [gI_chg, gI_chg]; exact m32
  have l50 : gL (chg (chg τ3 me x (-(nI (zC s)))) me k (nI (zT s))) 0 = lN (zP s) := by rw [gL_chg, gL_chg]; exact l0
  have m4 : gI (chg τ3 me x (-(nI (zC s)))) 25 = nI me := by rw [gI_chg]; exact m25
  have m432 : gI (chg τ3 me x (-(nI (zC s)))) 32 = nI (zT s) := by rw [gI_chg]; exact m32
  unfold TL_offer_c179 MD_offer_c266
  simp only [e1, e2, bd1, t0, hP3.2.2.2.1, e4, t4, hP4.2.1, e5, hP5.2.1, hP5.2.2.1, nmI, m25, l1, MD_change_eq hme hx, lneg, m4, m432, nI_l (show zT s < 2 ^ 31 by omega), MD_change_eq hme hk, lN_i, pk_sub h2, pk_sub h3, m5, m532, l50]
  generalize hτ5 : chg (chg τ3 me x (-(nI (zC s)))) me k (nI (zT s)) = τ5 at *
  have hG5 : Good (K + 4189000) (L + 1) τ5 := g5.mono (by omega) (by omega)
  by_cases c0 : x5 = 0
  · rw [if_pos c0]
    by_cases c1 : zT s < w0
    · rw [if_neg (nI_nle (by omega) (by omega))]
      by_cases c2 : zP s < g0
      · have e8 : x8 = 1 := h8.trans (if_pos ⟨c0, c1, c2⟩)
        rw [if_neg (nI_nle (by omega) (by omega)), e8, if_neg (show ¬ (1 : Int32) = 0 by decide)]
        simp only [can_eq hC5 g5 m5 hme (show K + 2640100 + 1440100 + 100000 + 1100000 < 2 ^ 31 by omega), Int32.sub_zero, g5.2.2.2.2.1.1, nI_clamp (lt31 hme), if_neg (gin hme), MD_reserve_eq g5 hme]
        have e20 : nI (100 + 20 * pcs τ5 me) + 20 = nI (120 + 20 * pcs τ5 me) := by
          rw [show (20 : Int32) = nI 20 by decide, nI_add]
          congr 1
          omega
        have hpl := pcs_le g5 me
        have e20' : (nI (120 + 20 * pcs τ5 me)).toInt = ((120 + 20 * pcs τ5 me : Nat) : Int) := nI_toInt (by omega)
        rw [e20]
        have hn5 := g5.2.2.2.2.1.2.1
        by_cases c3 : (12 : Int32) ≤ nI (nO τ5)
        · rw [if_pos c3, if_pos c3, if_pos rfl]
          exact off_none hC5 hG5
        · rw [if_neg c3, if_neg c3]
          have hn5' : nO τ5 < 12 := Nat.lt_of_not_le (fun z => c3 (nI_le (a := 12) z (by omega)))
          by_cases c4 : (gA τ5 9 me).toInt < ((120 + 20 * pcs τ5 me : Nat) : Int)
          · rw [if_pos c4, if_pos rfl, if_pos (Int32.lt_iff_toInt_lt.mpr (by rw [e20']; exact c4))]
            exact off_none hC5 hG5
          · rw [if_neg c4, if_neg (by decide), if_neg (fun z => c4 (by have := Int32.lt_iff_toInt_lt.mp z; rw [e20'] at this; exact this)), place_eq g5 hn5', m5, t5]
            have pl := plcO_ok (τ := τ5) (x1 := nI me) (x2 := nI k) (x3 := nI (w0 - zT s)) (x4 := nI x) (x5 := nI (g0 - zP s))
            have sz : gI σ5 18 = nI (nO τ5) := hC5.1.2.2.2.2.2.2.2.2.2.1.trans g5.2.2.2.2.1.1
            have sz' : (gI σ5 18).toNatClampNeg = nO τ5 := by rw [sz, nI_clamp (by omega)]
            refine ⟨_, _, _, rfl, rfl, fun _ => ?_, fun w σ' hw' => ?_, ?_⟩
            · show gI σ5 18 = nI (gI σ5 18).toNatClampNeg ∧ (gI σ5 18).toNatClampNeg ≤ 14 ∧ LOk 0 2 eE σ5 (gI σ5 18).toNatClampNeg
              rw [sz']
              exact ⟨sz, by omega, hC5.2.2.2.1.1⟩
            · obtain ⟨w1, w2⟩ := hw'
              refine ⟨w1, ?_⟩
              have w3 : AddOfferR eE.1 (nI me) (nI k) (nI (w0 - zT s)) (nI x) (nI (g0 - zP s)) (gI σ5 18).toNatClampNeg σ5 σ' := w2
              rw [sz'] at w3
              exact core_addO hC5 g5 hn5' w3 pl
            · exact (g_addO g5 hn5' pl hL ⟨me, hme, rfl⟩ ⟨k, hk, rfl⟩ ⟨w0 - zT s, by omega, by omega, rfl⟩ ⟨x, hx, rfl⟩ ⟨g0 - zP s, by omega, by omega, rfl⟩).mono (by omega) (Nat.le_refl _)
      · have e8 : x8 = 0 := h8.trans (if_neg (fun z => c2 z.2.2))
        rw [show g0 - zP s = 0 by omega, if_pos (show nI 0 ≤ 0 by decide), e8, if_pos rfl]
        exact off_none hC5 hG5
    · have e8 : x8 = 0 := h8.trans (if_neg (fun z => c1 z.2.1))
      rw [show w0 - zT s = 0 by omega, if_pos (show nI 0 ≤ 0 by decide), e8, if_pos rfl]
      exact off_none hC5 hG5
  · have e8 : x8 = 0 := h8.trans (if_neg (fun z => c0 z.1))
    rw [if_neg c0, e8, if_pos rfl]
    exact off_none hC5 hG5
/-! those without funds -/
def QC (b : Nat → Nat) (s : PZ) : Prop := (∀ q, q < zR s → zK s (b q) ≤ zT s) ∧ (zT s = 0 → zP s = 0)
theorem plC_Q {x0 k0 a0 : Int32} {me x k n w0 g0 F : Nat} {f b : Nat → Nat} (hG : Good K L τ) (hR : Row τ x0 k0 a0 (nO τ) b n) : QC b (plC τ me x k f b n w0 g0 F) := by
  refine (pln_ind (n := n) (QC b) (fun _ _ => rfl) (fun s h hp => ?_) n (ps0 f) (Nat.zero_add n) ⟨fun q hq => absurd hq (Nat.not_lt_zero _), fun _ => rfl⟩).1
  have hj := (hR.2.1 _ hp).1
  refine ⟨fun q hq => ?_, fun z => ?_⟩
  · have hq' : q < zR s + 1 := hq
    show va_up (zK s) (b (zR s)) (vC τ me x k w0 g0 F (b (zR s)) s) (b q) ≤ zT s + vC τ me x k w0 g0 F (b (zR s)) s
    by_cases c : q = zR s
    · rw [c, va_up_self]
      omega
    · rw [va_up_ne _ _ (fun y => c (hR.inj (by omega) hp y))]
      have := h.1 q (by omega)
      omega
  · have z' : zT s + vC τ me x k w0 g0 F (b (zR s)) s = 0 := z
    show zP s + prc τ (b (zR s)) (vC τ me x k w0 g0 F (b (zR s)) s) = 0
    rw [show vC τ me x k w0 g0 F (b (zR s)) s = 0 by omega, prc0 hG hj, h.2 (by omega)]
theorem cu_L {x0 k0 a0 : Int32} {me x k n : Nat} {f b : Nat → Nat} {s : PZ} (hC : Core eE μ ν σ τ) (hG : Good K L τ) (hR : Row τ x0 k0 a0 (nO τ) b n) (hX : CX σ me x k f b n) (hP : CP σ b s) (hr : zR s ≤ n) (hf : ∀ o, f o < 2 ^ 31) : ∀ (m N p : Nat), p + m = zR s → m < N → TK_countUnfunded_L4 N (sm (fun q => if f (oN τ (b q)) = 0 then 1 else 0) p) (nI p) σ = some (sm (fun q => if f (oN τ (b q)) = 0 then 1 else 0) (zR s))
  | 0, N + 1, p, hp, _ => by
    have hn := hG.2.2.2.2.1.2.1
    have hs := hR.2.2.2
    have e : p = zR s := by omega
    show TK_countUnfunded_b4 _ _ _ _ = _
    unfold TK_countUnfunded_b4
    rw [hP.1, if_pos (nI_le (by omega) (by omega)), e]
  | m + 1, N + 1, p, hp, hN => by
    have hn := hG.2.2.2.2.1.2.1
    have hs := hR.2.2.2
    have hpn : p < n := by omega
    have hj : b p < nO τ := (hR.2.1 _ hpn).1
    obtain ⟨_, f1, _, fo, _⟩ := hC.2.2.2.1.2.1 (b p) hj
    obtain ⟨eo, ho⟩ := oN_ok hG hj
    show TK_countUnfunded_b4 _ _ _ _ = _
    unfold TK_countUnfunded_b4
    rw [hP.1, if_neg (nI_ge (show p < zR s by omega) (by omega))]
    simp only [nI_clamp (show p < 2 ^ 31 by omega), if_neg (gin (show p < 12 by omega)), hX.2.2.2.1.2 _ hpn, bd1, gd_ok f1, fo, eo, nI_clamp (lt31 ho), if_neg (gin ho), hX.2.2.2.2 _ ho, nI_1]
    have ih := cu_L hC hG hR hX hP hr hf m N (p + 1) (by omega) (by omega)
    have es : sm (fun q => if f (oN τ (b q)) = 0 then 1 else 0) (p + 1) = sm (fun q => if f (oN τ (b q)) = 0 then 1 else 0) p + (if f (oN τ (b p)) = 0 then 1 else 0) := rfl
    rw [es] at ih
    by_cases c : f (oN τ (b p)) = 0
    · rw [if_pos c] at ih
      rw [if_pos (show nI (f (oN τ (b p))) = 0 by rw [c]; decide)]
      exact ih
    · rw [if_neg c, Int32.add_zero] at ih
      rw [if_neg (nI_ne0 (by omega) (hf _))]
      exact ih
theorem left_L {x1 x2 x3 x4 x8 x10 : Int32} {f : Nat → Nat} {s : PZ} (hG : Good K L τ) (hM : MP τ f s) : ∀ (m N j : Nat) (x9 : Int32), j + m = nO τ → m < N → x9 + sm (fun j => if zG s j = true then 1 else 0) j = nI (nO τ) → ∃ y, y + sm (fun j => if zG s j = true then 1 else 0) (nO τ) = nI (nO τ) ∧ MD_offer_L199 N x1 x2 x3 x4 x8 x9 x10 (nI j) τ = (if (12 : Int32) ≤ y then (some ((23 : Int32), τ)) else (if (gI τ 25) < 0 ∨ 6 ≤ (gI τ 25).toNatClampNeg then none else if ((100 : Int32) + ((20 : Int32) * (x10 + (1 : Int32)))) ≤ (gA τ 9 (gI τ 25).toNatClampNeg) then (MD_offer_c266 x1 x2 x3 x4 x8 τ) else (some ((23 : Int32), τ))))
  | 0, N + 1, j, x9, hj, _, h9 => by
    have hn := hG.2.2.2.2.1.2.1
    have e : j = nO τ := by omega
    refine ⟨x9, by rw [e] at h9; exact h9, ?_⟩
    show MD_offer_b199 _ _ _ _ _ _ _ _ _ _ = _
    unfold MD_offer_b199
    rw [hG.2.2.2.2.1.1, if_pos (nI_le (by omega) (by omega))]
  | m + 1, N + 1, j, x9, hj, hN, h9 => by
    have hn := hG.2.2.2.2.1.2.1
    have hjn : j < nO τ := by omega
    have hjc : j < 12 := by omega
    have es : sm (fun j => if zG s j = true then 1 else 0) (j + 1) = sm (fun j => if zG s j = true then 1 else 0) j + (if zG s j = true then 1 else 0) := rfl
    show ∃ y, _ ∧ MD_offer_b199 _ _ _ _ _ _ _ _ _ _ = _
    unfold MD_offer_b199
    rw [hG.2.2.2.2.1.1, if_neg (nI_ge hjn (by omega))]
    simp only [nI_clamp (lt31 hjc), if_neg (gin hjc), (hM.2.2.2.2 j hjc).2.2]
    by_cases c : zG s j = true
    · simp only [if_pos c, i10, if_false]
      unfold MD_offer_c225
      simp only [nmI, nI_1]
      refine left_L hG hM m N (j + 1) (x9 - 1) (by omega) (by omega) ?_
      rw [es, if_pos c, Int32.add_comm (sm _ j) 1, ← Int32.add_assoc, Int32.sub_add_cancel]
      exact h9
    · simp only [if_neg c, i00, if_true]
      unfold MD_offer_c225
      simp only [nmI, nI_1]
      refine left_L hG hM m N (j + 1) (x9 - 0) (by omega) (by omega) ?_
      rw [es, if_neg c, Int32.add_zero, Int32.sub_zero]
      exact h9
def goodO (x1 x2 x3 x4 x5 : Int32) : Prop := (0 ≤ x1 ∧ x1 ≤ 12) ∧ (0 ≤ x3 ∧ x3 ≤ 12) ∧ x1 ≠ x3 ∧ (1 ≤ x2 ∧ x2 ≤ 100000) ∧ (1 ≤ x4 ∧ x4 ≤ 100000) ∧ (0 ≤ x5 ∧ x5 ≤ 2)
theorem TL_offer_y {x1 x2 x3 x4 x5 : Int32} (h : goodO x1 x2 x3 x4 x5) : TL_offer x1 x2 x3 x4 x5 σ = TL_offer_c56 x1 x2 x3 x4 x5 1 σ := by
  obtain ⟨h1, h2, h3, h4, h5, h6⟩ := h
  unfold TL_offer
  simp only [TL_isAsset_eq, TL_isWithin_eq, bd1, if_pos h1, if_pos h2, if_neg h3, if_pos h4, if_pos h5, if_pos h6, i10, if_false]
theorem TL_offer_n {x1 x2 x3 x4 x5 : Int32} (h : ¬ goodO x1 x2 x3 x4 x5) : TL_offer x1 x2 x3 x4 x5 σ = TL_offer_c56 x1 x2 x3 x4 x5 0 σ := by
  unfold TL_offer
  simp only [TL_isAsset_eq, TL_isWithin_eq, bd1]
  by_cases h1 : 0 ≤ x1 ∧ x1 ≤ 12
  · simp only [if_pos h1, i10, if_false]
    by_cases h2 : 0 ≤ x3 ∧ x3 ≤ 12
    · simp only [if_pos h2, i10, if_false]
      by_cases h3 : x1 = x3
      · simp only [if_pos h3]
      · simp only [if_neg h3]
        by_cases h4 : 1 ≤ x2 ∧ x2 ≤ 100000
        · simp only [if_pos h4, i10, if_false]
          by_cases h5 : 1 ≤ x4 ∧ x4 ≤ 100000
          · simp only [if_pos h5, i10, if_false]
            by_cases h6 : 0 ≤ x5 ∧ x5 ≤ 2
            · exact absurd ⟨h1, h2, h3, h4, h5, h6⟩ h
            · simp only [if_neg h6, i00, if_true]
          · simp only [if_neg h5, i00, if_true]
        · simp only [if_neg h4, i00, if_true]
    · simp only [if_neg h2, i00, if_true]
  · simp only [if_neg h1, i00, if_true]
theorem MD_offer_y {x1 x2 x3 x4 x5 : Int32} (h : goodO x1 x2 x3 x4 x5) : MD_offer x1 x2 x3 x4 x5 τ = MD_offer_c60 x1 x2 x3 x4 x5 1 τ := by
  obtain ⟨h1, h2, h3, h4, h5, h6⟩ := h
  unfold MD_offer
  simp only [MD_isAsset_eq, bd1, if_pos h1, if_pos h2, if_neg h3, if_neg (Int32.not_lt.mpr h4.1), if_neg (Int32.not_lt.mpr h4.2), if_neg (Int32.not_lt.mpr h5.1), if_neg (Int32.not_lt.mpr h5.2), if_neg (Int32.not_lt.mpr h6.1), if_neg (Int32.not_lt.mpr h6.2), i10, if_false]
theorem MD_offer_n {x1 x2 x3 x4 x5 : Int32} (h : ¬ goodO x1 x2 x3 x4 x5) : MD_offer x1 x2 x3 x4 x5 τ = MD_offer_c60 x1 x2 x3 x4 x5 0 τ := by
  unfold MD_offer
  simp only [MD_isAsset_eq, bd1]
  by_cases h1 : 0 ≤ x1 ∧ x1 ≤ 12
  · simp only [if_pos h1, i10, if_false]
    by_cases h2 : 0 ≤ x3 ∧ x3 ≤ 12
    · simp only [if_pos h2, i10, if_false]
      by_cases h3 : x1 = x3
      · simp only [if_pos h3]
      · simp only [if_neg h3]
        by_cases c1 : x2 < 1
        · simp only [if_pos c1]
        · simp only [if_neg c1]
          by_cases c2 : 100000 < x2
          · simp only [if_pos c2]
          · simp only [if_neg c2]
            by_cases c3 : x4 < 1
            · simp only [if_pos c3]
            · simp only [if_neg c3]
              by_cases c4 : 100000 < x4
              · simp only [if_pos c4]
              · simp only [if_neg c4]
                by_cases c5 : x5 < 0
                · simp only [if_pos c5]
                · simp only [if_neg c5]
                  by_cases c6 : 2 < x5
                  · simp only [if_pos c6]
                  · exact absurd ⟨h1, h2, h3, ⟨Int32.not_lt.mp c1, Int32.not_lt.mp c2⟩, ⟨Int32.not_lt.mp c3, Int32.not_lt.mp c4⟩, ⟨Int32.not_lt.mp c5, Int32.not_lt.mp c6⟩⟩ h
    · simp only [if_neg h2, i00, if_true]
  · simp only [if_neg h1, i00, if_true]
theorem s_offer {x1 x2 x3 x4 x5 : Int32} (hC : Core eE μ ν σ τ) (hG : Good K L τ) (hK : K + 5290000 < 2 ^ 31) (hL : L + 1 < 2 ^ 31) : OffOk eE μ ν (K + 4189500) (L + 1) (TL_offer x1 x2 x3 x4 x5 σ) (MD_offer x1 x2 x3 x4 x5 τ) := by
  by_cases g : goodO x1 x2 x3 x4 x5
  · rw [TL_offer_y g, MD_offer_y g]
    obtain ⟨h1, h2, h3, h4, h5, h6⟩ := g
    unfold TL_offer_c56 MD_offer_c60
    obtain ⟨r, σ1, τ1, t1, t2, hC1, hG1, h0⟩ := s_charge 1 hC hG (by omega)
    have hG1' : Good (K + 4189500) (L + 1) τ1 := hG1.mono (by omega) (by omega)
    simp only [bd2, t1, t2]
    by_cases hr : r = 0
    · obtain ⟨_, me, hme, hm, hm', h8⟩ := h0 hr
      obtain ⟨k, hk, rfl⟩ := asset_of h1
      obtain ⟨x, hx, rfl⟩ := asset_of h2
      obtain ⟨w0, hw1, hw2, rfl⟩ := rng_of (M := 100000) (n := 100000) (by decide) h4
      obtain ⟨g0, hg1, hg2, rfl⟩ := rng_of (M := 100000) (n := 100000) (by decide) h5
      have hF := fnd_lt (τ := τ1) me x
      simp only [if_pos hr, hm, hm', ST_fundsOf_eq hC1 hG1 hme hx, MD_fundsIn_eq hG1 hme hx, bd1]
      by_cases c0 : fnd τ1 me x = 0
      · rw [if_pos (show nI (fnd τ1 me x) = 0 by rw [c0]; decide), if_pos (show nI (fnd τ1 me x) = 0 by rw [c0]; decide)]
        exact off_none hC1 hG1'
      · rw [if_neg (nI_ne0 (by omega) hF), if_neg (nI_ne0 (by omega) hF)]
        have hff : ∀ o, (fun o => fnd τ1 o k) o < 2 ^ 31 := fun o => fnd_lt o k
        obtain ⟨σ2, b, n, e2, hC2, hR, hX⟩ := open_ok (me := me) (x := x) hC1 hG1 hk
        obtain ⟨σ3, e3, hC3, hX3, hP3⟩ := planC_ok (w0 := w0) (g0 := g0) (F := fnd τ1 me x) hC2 hG1 hR hX hff hme hx hk hw2 hg2 hF
        obtain ⟨τ3, m3, hT3, hM3⟩ := takeC_ok (w0 := w0) (g0 := g0) (F := fnd τ1 me x) hG1 (FT.refl τ1) hR hm rfl hme hx hk hw2 hg2 hF
        have hI := plC_I (me := me) (x := x) (k := k) (w0 := w0) (g0 := g0) (F := fnd τ1 me x) (f := fun o => fnd τ1 o k) hG1 hR
        have hQ := plC_Q (me := me) (x := x) (k := k) (w0 := w0) (g0 := g0) (F := fnd τ1 me x) (f := fun o => fnd τ1 o k) hG1 hR
        simp only [e2, e3, nI_l (show w0 < 2 ^ 31 by omega), nI_l (show g0 < 2 ^ 31 by omega), nI_l hF, m3, hP3.2.1, hM3.1]
        generalize hs : plC τ1 me x k (fun o => fnd τ1 o k) b n w0 g0 (fnd τ1 me x) = s at *
        obtain ⟨⟨iB, iT, iP, iC⟩, iR⟩ := hI
        have hC4 := core_ft hT3 hC3
        have hG4 := good_ft hT3 hG1
        have hG4' : Good (K + 4189500) (L + 1) τ3 := hG4.mono (by omega) (by omega)
        have hR4 : Row τ3 (nI x) (nI k) (nI me) (nO τ3) b n := by rw [hT3.eNO]; exact hT3.row hR
        have m25 : gI τ3 25 = nI me := (hT3.1 25 (by decide)).trans hm
        have iB4 := hT3.pb iB
        have fin : ∀ x8 : Int32, (x8 = if x5 = 0 ∧ zT s < w0 ∧ zP s < g0 then 1 else 0) → OffOk eE μ ν (K + 4189500) (L + 1) (TL_offer_c179 (nI k) (nI w0) (nI x) (nI g0) x5 σ3) (MD_offer_c266 (nI k) (nI w0) (nI x) (nI g0) x8 τ3) := fun x8 h8 => by
          obtain ⟨a1, a2, a3, a4, a5, a6, a7, a8⟩ := ofr_end (x5 := x5) (x8 := x8) hC4 hG4 hR4 hX3 hP3 hM3 iB4 iR hff m25 hme hx hk hw2 hg2 iT iP h8 hL (by omega)
          exact ⟨a1, a2, a3, a4, a5, a6, a7, a8.mono (by omega) (Nat.le_refl _)⟩
        have T0 : zT s < 2 ^ 31 := by omega
        have i0T : nI (zT s) = 0 ↔ zT s = 0 := by
          have := nI_eq (a := zT s) (b := 0) T0 (by decide)
          rw [nI_0] at this
          exact this
        have k2 : ∀ {α : Type} (A B : α), (if nI (zT s) < nI w0 then A else B) = if zT s < w0 then A else B := fun A B => by
          by_cases c : zT s < w0
          · rw [if_pos c, if_pos (nI_lt c (by omega))]
          · rw [if_neg c, if_neg (nI_nlt (by omega) (by omega))]
        -- with nothing taken
        have nil : zT s = 0 → x5 = 0 → OffOk eE μ ν (K + 4189500) (L + 1) (TL_offer_c152 (nI k) (nI w0) (nI x) (nI g0) x5 σ3) (MD_offer_c166 (nI k) (nI w0) (nI x) (nI g0) 1 τ3) := fun z z5 => by
          have hn := hG4.2.2.2.2.1.2.1
          have hsn := hR4.2.2.2
          have hP0 := hQ.2 z
          unfold TL_offer_c152 MD_offer_c166
          have ecu : TK_countUnfunded σ3 = some (sm (fun q => if (fun o => fnd τ1 o k) (oN τ3 (b q)) = 0 then 1 else 0) (zR s)) := cu_L hC4 hG4 hR4 hX3 hP3 iR hff (zR s) FU 0 (Nat.zero_add _) (by rw [FUv]; omega)
          obtain ⟨b1, b2, b3, b4, b5, b6⟩ := iB4
          obtain ⟨r1, r2⟩ := rch hR4 iR
          have esm : sm (fun q => if (fun o => fnd τ1 o k) (oN τ3 (b q)) = 0 then 1 else 0) (zR s) = sm (fun j => if zG s j = true then (1 : Int32) else 0) (nO τ3) := by
            rw [← sm_perm (zR s) (fun j => if zG s j = true then (1 : Int32) else 0) r1 r2 (fun j hj hq => by
              show (if zG s j = true then (1 : Int32) else 0) = 0
              rw [(b5 j hq).2.2]
              rfl)]
            refine sm_c _ (fun q hq => ?_)
            have hk0 : zK s (b q) = 0 := by
              have := hQ.1 q hq
              omega
            have hiff := (b6 q hq).2.2.1
            by_cases c : (fun o => fnd τ1 o k) (oN τ3 (b q)) = 0
            · rw [if_pos c, if_pos (hiff.mpr (Or.inl c))]
            · rw [if_neg c, if_neg (fun y => (hiff.mp y).elim c (fun y => y.1 hk0))]
          obtain ⟨y, hy, ey⟩ := left_L (x1 := nI k) (x2 := nI w0) (x3 := nI x) (x4 := nI g0) (x8 := 1) (x10 := nI (pcs τ3 me)) hG4 hM3 (nO τ3) FU 0 (nI (nO τ3)) (Nat.zero_add _) (by rw [FUv]; omega) (Int32.add_zero _)
          have ey' : MD_offer_L199 FU (nI k) (nI w0) (nI x) (nI g0) 1 (nI (nO τ3)) (nI (pcs τ3 me)) 0 τ3 = _ := ey
          have ed : nI (nO τ3) - sm (fun j => if zG s j = true then (1 : Int32) else 0) (nO τ3) = y := by
            rw [← hy, Int32.sub_eq_add_neg, Int32.add_assoc, Int32.add_right_neg, Int32.add_zero]
          have hpl := pcs_le hG4 me
          rw [hP3.2.1, hM3.1, if_pos (i0T.mpr z), if_pos (i0T.mpr z), ecu, esm]
          simp only [bd1, can_eq hC4 hG4 m25 hme (show K + 10 + 1100000 < 2 ^ 31 by omega), ed, i10, if_false, nmI, hG4.2.2.2.2.1.1, m25, MD_pieces_eq hG4 hme, ey', nI_clamp (lt31 hme), if_neg (gin hme), nI_1, res_eq]
          have e20' : (nI (100 + 20 * (pcs τ3 me + 1))).toInt = ((100 + 20 * (pcs τ3 me + 1) : Nat) : Int) := nI_toInt (by omega)
          by_cases c1 : (12 : Int32) ≤ y
          · rw [if_pos c1, if_pos c1, if_pos rfl]
            exact off_none hC4 hG4'
          · rw [if_neg c1, if_neg c1]
            by_cases c2 : (gA τ3 9 me).toInt < ((120 + 20 * pcs τ3 me : Nat) : Int)
            · rw [if_pos c2, if_pos rfl, if_neg (fun w => by
                have := Int32.le_iff_toInt_le.mp w
                rw [e20'] at this
                omega)]
              exact off_none hC4 hG4'
            · rw [if_neg c2, if_neg (by decide), if_pos (Int32.le_iff_toInt_le.mpr (by rw [e20']; omega))]
              exact fin 1 (by rw [if_pos ⟨z5, by omega, by omega⟩])
        have some1 : zT s ≠ 0 → TL_offer_c152 (nI k) (nI w0) (nI x) (nI g0) x5 σ3 = TL_offer_c179 (nI k) (nI w0) (nI x) (nI g0) x5 σ3 := fun z => by
          unfold TL_offer_c152
          rw [hP3.2.1, if_neg (fun y => z (i0T.mp y))]
        have c166n : ∀ x8 : Int32, (x8 = 0 ∨ zT s ≠ 0) → MD_offer_c166 (nI k) (nI w0) (nI x) (nI g0) x8 τ3 = MD_offer_c266 (nI k) (nI w0) (nI x) (nI g0) x8 τ3 := fun x8 hz => by
          unfold MD_offer_c166
          by_cases c : x8 = 0
          · rw [if_pos c]
          · rw [if_neg c, hM3.1, if_neg (fun y => hz.elim (fun w => c w) (fun w => w (i0T.mp y)))]
        -- from 137 on
        have last : ¬ (zT s = 0 ∧ x5 ≠ 0) → OffOk eE μ ν (K + 4189500) (L + 1) (TL_offer_c152 (nI k) (nI w0) (nI x) (nI g0) x5 σ3) (MD_offer_c137 (nI k) (nI w0) (nI x) (nI g0) x5 τ3) := fun hno => by
          unfold MD_offer_c137
          rw [hM3.1, hM3.2.1]
          by_cases c5 : x5 = 0
          · rw [if_pos c5]
            by_cases cT : w0 ≤ zT s
            · rw [if_pos (nI_le cT T0), c166n 0 (Or.inl rfl), some1 (by omega)]
              exact fin 0 (by rw [if_neg (fun z => by omega)])
            · rw [if_neg (nI_ge (by omega) (by omega)), nI_l (show g0 < 2 ^ 31 by omega)]
              by_cases cP : g0 ≤ zP s
              · rw [if_pos ((lg_cmp_ge _ _).mpr ((pk_lLE (by omega) (by omega)).mpr cP)), c166n 0 (Or.inl rfl), some1 (fun z => by have := hQ.2 z; omega)]
                exact fin 0 (by rw [if_neg (fun z => by omega)])
              · rw [if_neg (fun z => cP ((pk_lLE (by omega) (by omega)).mp ((lg_cmp_ge _ _).mp z)))]
                by_cases cz : zT s = 0
                · exact nil cz c5
                · rw [c166n 1 (Or.inr cz), some1 cz]
                  exact fin 1 (by rw [if_pos ⟨c5, by omega, by omega⟩])
          · rw [if_neg c5, c166n 0 (Or.inl rfl), some1 (fun z => hno ⟨z, c5⟩)]
            exact fin 0 (by rw [if_neg (fun z => c5 z.1)])
        have mid : ¬ (x5 = 2 ∧ zT s < w0) → OffOk eE μ ν (K + 4189500) (L + 1) (TL_offer_c133 (nI k) (nI w0) (nI x) (nI g0) x5 σ3) (MD_offer_c121 (nI k) (nI w0) (nI x) (nI g0) x5 τ3) := fun hno => by
          unfold TL_offer_c133 MD_offer_c121
          rw [hP3.2.1, hM3.1]
          by_cases c1 : x5 = 1
          · rw [if_pos c1, if_pos c1]
            by_cases cz : zT s = 0
            · rw [if_pos (i0T.mpr cz), if_pos (i0T.mpr cz)]
              exact off_none hC4 hG4'
            · rw [if_neg (fun y => cz (i0T.mp y)), if_neg (fun y => cz (i0T.mp y))]
              exact last (fun z => cz z.1)
          · rw [if_neg c1, if_neg c1]
            refine last (fun z => ?_)
            have h7 : x5 = 2 := by
              have e0 : (0 : Int32).toInt = 0 := by decide
              have e1 : (1 : Int32).toInt = 1 := by decide
              have e2 : (2 : Int32).toInt = 2 := by decide
              have l1 := Int32.le_iff_toInt_le.mp h6.1
              have l2 := Int32.le_iff_toInt_le.mp h6.2
              rw [e0] at l1
              rw [e2] at l2
              have n0 : x5.toInt ≠ 0 := fun y => z.2 (Int32.toInt_inj.mp (y.trans e0.symm))
              have n1 : x5.toInt ≠ 1 := fun y => c1 (Int32.toInt_inj.mp (y.trans e1.symm))
              exact Int32.toInt_inj.mp (by rw [e2]; omega)
            exact hno ⟨h7, by omega⟩
        rw [k2, k2]
        by_cases c2 : x5 = 2
        · rw [if_pos c2, if_pos c2]
          by_cases cw : zT s < w0
          · rw [if_pos cw, if_pos cw]
            exact off_none hC4 hG4'
          · rw [if_neg cw, if_neg cw]
            exact mid (fun z => cw z.2)
        · rw [if_neg c2, if_neg c2]
          exact mid (fun z => c2 z.1)
    · simp only [if_neg hr]
      exact off_none hC1 hG1'
  · rw [TL_offer_n g, MD_offer_n g]
    unfold TL_offer_c56 MD_offer_c60
    simp only [TL_charge0, MD_begin0, bd2, im10, if_false]
    exact off_none hC (hG.mono (by omega) (by omega))
end OFR
