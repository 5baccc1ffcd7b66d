section TRN
variable {eE : Nat × Nat} {μ ν σ σ' τ τ' : ST} {K L : Nat}
theorem er_lt {n p : Nat} (hp : p < n) : p < (List.range n).length := by rw [List.length_range]; exact hp
theorem rm1O {p : Nat} (hC : Core eE μ ν σ τ) (hG : Good K L τ) (hp : p < nO τ) : ∃ (y : Nat) (σ1 : ST), AL_remove_OL (nI p) σ = some (y, σ1) ∧ CSubO σ σ1 ((List.range (nO τ)).eraseIdx p) := by
  have hn := hG.2.2.2.2.1.2.1
  obtain ⟨hL, hf, _⟩ := hC.2.2.2.1
  rcases hL with ⟨_, h0⟩ | ⟨p1, p2, p3, _⟩
  · omega
  refine rmO (CSubO.start hC hG) (er_lt hp) (by rw [List.length_range]; omega) ⟨p1, p2⟩ (by rw [List.length_range]; exact p3) (fun j hj => ?_)
  rw [List.length_range] at hj
  rw [xg_range hj]
  exact ⟨_, (hf j hj).1, (hf j hj).2.1⟩
theorem rm1D {p : Nat} (hC : Core eE μ ν σ τ) (hG : Good K L τ) (hp : p < nD τ) : ∃ (y : Nat) (σ1 : ST), AL_remove_DL (nI p) σ = some (y, σ1) ∧ CSubD σ σ1 ((List.range (nD τ)).eraseIdx p) := by
  have hn := hG.2.2.2.2.2.2.1
  obtain ⟨hL, hf, _⟩ := hC.2.2.2.2.1
  rcases hL with ⟨_, h0⟩ | ⟨p1, p2, p3, _⟩
  · omega
  refine rmD (CSubD.start hC hG) (er_lt hp) (by rw [List.length_range]; omega) ⟨p1, p2⟩ (by rw [List.length_range]; exact p3) (fun j hj => ?_)
  rw [List.length_range] at hj
  rw [xg_range hj]
  exact ⟨_, (hf j hj).1, (hf j hj).2.1⟩
theorem s_cancel {x1 : Int32} (hC : Core eE μ ν σ τ) (hG : Good K L τ) (hK : K + 10 < 2 ^ 31) : ∃ (r : Int32) (σ1 τ1 : ST), TL_cancel x1 σ = some (r, σ1) ∧ MD_cancel x1 τ = some (r, τ1) ∧ Core eE μ ν σ1 τ1 ∧ Good (K + 10) L τ1 := by
  unfold TL_cancel MD_cancel
  by_cases h1 : x1 < 1
  · simp only [if_pos h1]
    unfold TL_cancel_c11 MD_cancel_c11
    simp only [TL_charge0, MD_begin0, bd2, im10, if_false]
    exact ⟨_, _, _, rfl, rfl, hC, hG.mono (by omega) (Nat.le_refl _)⟩
  · simp only [if_neg h1]
    unfold TL_cancel_c11 MD_cancel_c11
    obtain ⟨r, σ1, τ1, t1, t2, hC1, hG1, h0⟩ := s_charge 1 hC hG hK
    simp only [bd2, t1, t2]
    by_cases hr : r = 0
    · obtain ⟨_, a, ha, hm, hm', _⟩ := h0 hr
      have hn := hG1.2.2.2.2.1.2.1
      simp only [if_pos hr]
      rcases findO hC1 hG1 x1 with ⟨e1, e2⟩ | ⟨p, hp, _, e1, e2⟩
      · simp only [e1, e2, bd1, if_true, if_pos (show (-1 : Int32) < 0 by decide)]
        exact ⟨_, _, _, rfl, rfl, hC1, hG1⟩
      · have hp' : p < 2 ^ 31 := by omega
        obtain ⟨_, f1, f⟩ := hC1.2.2.2.1.2.1 p hp
        simp only [e1, e2, bd1, if_neg (nIm1 hp'), if_neg (nI_pos hp'), nI_clamp hp', if_neg (gin (show p < 12 by omega)), off_rd hC1 hG1 hp, gd_ok f1, f.2.1, hm, hm']
        by_cases ho : gA τ1 16 p = nI a
        · obtain ⟨y, σ2, r1, r2⟩ := rm1O hC1 hG1 hp
          have eo : gI τ1 21 - 1 = nI (nO τ1 - 1) := by
            rw [hG1.2.2.2.2.1.1, show (1 : Int32) = nI 1 by decide, pk_sub (by omega)]
          obtain ⟨τ2, q1, q2⟩ := cancel_L (τ := τ1) (n := nO τ1) (p := p) hn (nO τ1 - 1 - p) FU p (sI τ1 21 (nI (nO τ1 - 1))) (by omega) (Nat.le_refl _) (by rw [FUv]; omega) (by omega) ⟨by rw [gI_sI, if_pos rfl], fun b i => by rw [if_neg (fun z => by omega)]; rfl, fun i hi => if_neg hi, rfl, rfl⟩
          simp only [if_pos ho, r1, bd2, nmS, eo, q1]
          have sr : Srt ((List.range (nO τ1)).eraseIdx p) (nO τ1) := (Srt_range _).er (er_lt hp)
          exact ⟨0, _, _, rfl, rfl, core_subO hC1 hG1 sr r2 (q2.sub hp hn), g_subO hG1 sr (q2.sub hp hn)⟩
        · simp only [if_neg ho]
          exact ⟨_, _, _, rfl, rfl, hC1, hG1⟩
    · simp only [if_neg hr]
      exact ⟨r, _, _, rfl, rfl, hC1, hG1⟩
theorem s_settle {x1 : Int32} (hC : Core eE μ ν σ τ) (hG : Good K L τ) (hK : K + 1000100 < 2 ^ 31) : ∃ (r : Int32) (σ1 τ1 : ST), TL_settle x1 σ = some (r, σ1) ∧ MD_settle x1 τ = some (r, τ1) ∧ Core eE μ ν σ1 τ1 ∧ Good (K + 1000100) L τ1 := by
  unfold TL_settle MD_settle
  by_cases h1 : x1 < 1
  · simp only [if_pos h1]
    unfold TL_settle_c11 MD_settle_c11
    simp only [TL_charge0, MD_begin0, bd2, im10, if_false]
    exact ⟨_, _, _, rfl, rfl, hC, hG.mono (by omega) (Nat.le_refl _)⟩
  · simp only [if_neg h1]
    unfold TL_settle_c11 MD_settle_c11
    obtain ⟨r, σ1, τ1, t1, t2, hC1, hG1, h0⟩ := s_charge 1 hC hG (by omega)
    simp only [bd2, t1, t2]
    have hG1' : Good (K + 1000100) L τ1 := hG1.mono (by omega) (Nat.le_refl _)
    by_cases hr : r = 0
    · obtain ⟨_, a, ha, hm, hm', _⟩ := h0 hr
      have hn := hG1.2.2.2.2.2.2.1
      have e5 : gI σ1 5 = gI τ1 30 := hC1.1.2.2.2.2.2.1
      simp only [if_pos hr]
      rcases findD hC1 hG1 x1 with ⟨e1, e2⟩ | ⟨p, hp, _, e1, e2⟩
      · simp only [e1, e2, bd1, if_true, if_neg (show ¬ (0 : Int32) ≤ -1 by decide)]
        exact ⟨_, _, _, rfl, rfl, hC1, hG1'⟩
      · have hp' : p < 2 ^ 31 := by omega
        obtain ⟨_, f1, g0, g1, g2, g3, g4, g5⟩ := hC1.2.2.2.2.1.2.1 p hp
        obtain ⟨_, ⟨o1, ho1, eo1⟩, ⟨o2, ho2, eo2⟩, m, hm1, em⟩ := hG1.2.2.2.2.2.2.2.1 p hp
        simp only [e1, e2, bd1, if_neg (nIm1 hp'), if_pos (nI_pos' hp'), nI_clamp hp', if_neg (gin (show p < 6 by omega)), dep_rd hC1 hG1 hp, gd_ok f1, g1, g2, g4, g5, e5]
        have main : ∀ t, t < 6 → ∃ (r : Int32) (σ2 τ2 : ST), TL_settle_c98 (nI p) (dq σ1 p) (nI t) σ1 = some (r, σ2) ∧ MD_settle_c78 (nI p) (nI t) τ1 = some (r, τ2) ∧ Core eE μ ν σ2 τ2 ∧ Good (K + 1000100) L τ2 := by
          intro t ht
          unfold TL_settle_c98 MD_settle_c78
          obtain ⟨σ2, s1, s2⟩ := s_change (a := t) (k := 0) (v := nI m) hC1 ht (by decide)
          rw [show nI 0 = 0 by decide] at s1
          have hG2 := g_change (a := t) (k := 0) (v := nI m) hG1 ht (by decide) (Ab_nI hm1 (by omega)) (by omega)
          rw [chg_0] at s2 hG2
          obtain ⟨τ', eτ⟩ : ∃ τ', τ' = sA τ1 9 t (gA τ1 9 t + nI m) := ⟨_, rfl⟩
          have en : nD τ' = nD τ1 := by rw [eτ]; rfl
          have eg : gI τ' 23 = gI τ1 23 := by rw [eτ]; rfl
          rw [← eτ] at s2 hG2
          have hp2 : p < nD τ' := by rw [en]; exact hp
          have hn2 : nD τ' ≤ 6 := by rw [en]; exact hn
          obtain ⟨y, σ3, r1, r2⟩ := rm1D s2 hG2 (p := p) hp2
          have eo : gI τ1 23 - 1 = nI (nD τ1 - 1) := by
            rw [hG1.2.2.2.2.2.1, show (1 : Int32) = nI 1 by decide, pk_sub (by omega)]
          rw [← en] at eo
          obtain ⟨τ2, q1, q2⟩ := settle_L (τ := τ') (n := nD τ') (p := p) hn2 (nD τ' - 1 - p) FU p (sI τ' 23 (nI (nD τ' - 1))) (by omega) (Nat.le_refl _) (by rw [FUv]; omega) (by omega) ⟨by rw [gI_sI, if_pos rfl], fun b i => by rw [if_neg (fun z => by omega)]; rfl, fun i hi => if_neg hi, rfl, rfl⟩
          simp only [gd_ok f1, g3, em, s1, bd1, r1, bd2, nI_clamp (lt31 ht), if_neg (gin ht), nI_clamp hp', if_neg (gin (show p < 6 by omega)), nmS, gI_sA, ← eτ, eg, eo, q1]
          have sr : Srt ((List.range (nD τ')).eraseIdx p) (nD τ') := (Srt_range _).er (er_lt hp2)
          exact ⟨0, _, _, rfl, rfl, core_subD s2 hG2 sr r2 (q2.sub hp2 hn2), (g_subD hG2 sr (q2.sub hp2 hn2)).mono (by omega) (Nat.le_refl _)⟩
        by_cases c1 : gA τ1 25 p ≤ gI τ1 30
        · simp only [if_pos c1]
          by_cases c2 : gA τ1 26 p ≤ gI τ1 30
          · simp only [if_pos c2, eo1]
            exact main o1 ho1
          · simp only [if_neg c2, eo2]
            exact main o2 ho2
        · simp only [if_neg c1]
          exact ⟨_, _, _, rfl, rfl, hC1, hG1'⟩
    · simp only [if_neg hr]
      exact ⟨r, _, _, rfl, rfl, hC1, hG1'⟩
/-! trust -/
theorem cnt_up {p q : Nat → Bool} {t : Nat} (hp : p t = false) (hq : q t = true) (h : ∀ i, i ≠ t → q i = p i) : ∀ m s, s ≤ t → t < s + m → cnt q s m = cnt p s m + 1
  | 0, s, h1, h2 => by omega
  | m + 1, s, h1, h2 => by
    show (if q s then 1 else 0) + cnt q (s + 1) m = (if p s then 1 else 0) + cnt p (s + 1) m + 1
    by_cases c : s = t
    · subst c
      rw [hp, hq, cnt_congr (p := q) (q := p) m (s + 1) (fun i h3 _ => h i (by omega))]
      simp only [if_true, Bool.false_eq_true, if_false]
      omega
    · rw [h s c, cnt_up hp hq h m (s + 1) (by omega) (by omega)]
      omega
theorem own_up {τ : ST} {s : Nat} {v : Int32} : ∀ i, i ≠ s → own (sA τ 13 s v) i = own τ i := fun i hi => by
  unfold own
  rw [gA_nj hi, gA_ne (by decide)]
theorem pcs_up {a s : Nat} {v : Int32} (hs : 12 * a ≤ s ∧ s < 12 * a + 12) (h1 : own τ s = false) (h2 : own (sA τ 13 s v) s = true) : pcs (sA τ 13 s v) a = pcs τ a + 1 := by
  unfold pcs
  rw [cnt_up h1 h2 own_up 12 (12 * a) hs.1 hs.2]
  have e1 : ofO (sA τ 13 s v) a = ofO τ a := by
    funext j
    unfold ofO
    rw [gA_ne (by decide)]
  have e2 : ofD (sA τ 13 s v) a = ofD τ a := by
    funext j
    unfold ofD
    rw [gA_ne (by decide)]
  have e3 : nO (sA τ 13 s v) = nO τ := rfl
  have e4 : nD (sA τ 13 s v) = nD τ := rfl
  rw [e1, e2, e3, e4]
  omega
theorem s_trust {x1 x2 x3 x4 : Int32} (hx4 : x4 = 0 ∨ x4 = 1) (hC : Core eE μ ν σ τ) (hG : Good K L τ) (hK : K + 1200000 < 2 ^ 31) : ∃ (r : Int32) (σ1 τ1 : ST), TL_trust x1 x2 x3 x4 σ = some (r, σ1) ∧ MD_trust x1 x2 x3 x4 τ = some (r, τ1) ∧ Core eE μ ν σ1 τ1 ∧ Good (K + 10) L τ1 := by
  have bad : TL_trust_c31 x1 x2 x3 x4 0 σ = some (-1, σ) := by
    unfold TL_trust_c31
    simp only [TL_charge0, bd2, im10, if_false]
  have badM : MD_trust_c41 x1 x2 x3 x4 0 τ = some (-1, τ) := by
    unfold MD_trust_c41
    simp only [MD_begin0, bd2, im10, if_false]
  have hG' : Good (K + 10) L τ := hG.mono (by omega) (Nat.le_refl _)
  unfold TL_trust MD_trust
  simp only [TL_isOther_eq hC, MD_isAccount_eq, TL_isWithin_eq, TL_isCurrency_eq, bd1]
  by_cases h1 : 0 ≤ x1 ∧ x1 ≤ 5
  · by_cases h2 : x1 = gI τ 25
    · simp only [if_neg (show ¬ ((0 ≤ x1 ∧ x1 ≤ 5) ∧ x1 ≠ gI τ 25) from fun z => z.2 h2), if_pos h1, if_pos h2, i00, i10, if_true, if_false]
      exact ⟨-1, σ, τ, bad, badM, hC, hG'⟩
    · simp only [if_pos (show (0 ≤ x1 ∧ x1 ≤ 5) ∧ x1 ≠ gI τ 25 from ⟨h1, h2⟩), if_pos h1, if_neg h2, i10, if_false]
      by_cases h3 : 1 ≤ x2 ∧ x2 ≤ 2
      · have em : (if x2 = 1 then MD_trust_c26 x1 x2 x3 x4 τ else if x2 = 2 then MD_trust_c26 x1 x2 x3 x4 τ else MD_trust_c41 x1 x2 x3 x4 0 τ) = MD_trust_c26 x1 x2 x3 x4 τ := by
          rcases cur_iff.mp h3 with c | c
          · rw [if_pos c]
          · rw [if_pos c, ite_self]
        rw [em]
        unfold MD_trust_c26
        simp only [if_pos h3, i10, if_false]
        by_cases h4 : 0 ≤ x3 ∧ x3 ≤ 100000
        · simp only [if_pos h4, i10, if_false, if_neg (Int32.not_lt.mpr h4.1), if_neg (Int32.not_lt.mpr h4.2)]
          unfold TL_trust_c31 MD_trust_c41
          obtain ⟨r, σ1, τ1, t1, t2, hC1, hG1, h0⟩ := s_charge 1 hC hG (by omega)
          have hne0 : r = 0 → gI τ1 25 = gI τ 25 := fun _ => by
            have q1 := hC1.1.1
            have : gI σ1 0 = gI σ 0 := by
              have e := t1
              unfold TL_charge at e
              revert e
              simp only [bd1, nmS]
              intro e
              repeat' split at e
              all_goals first
                | (obtain ⟨_, rfl⟩ := Prod.mk.inj (Option.some.inj e); rfl)
                | exact absurd e (fun z => nomatch z)
            rw [← q1, this, hC.1.1]
          simp only [bd2, t1, t2]
          by_cases hr : r = 0
          · obtain ⟨_, a, ha, hm, hm', h8⟩ := h0 hr
            obtain ⟨b, hb, rfl⟩ := acct_of h1
            obtain ⟨c, hc, rfl⟩ := cur_of h3
            obtain ⟨l, hl, rfl⟩ := nI_of2 (M := 100000) (n := 100000) (by decide) (Int32.not_lt.mpr h4.1) h4.2
            have hab : b ≠ a := fun e => h2 (by rw [← hne0 hr, hm, e])
            obtain ⟨r1, r2⟩ := acc_rd hC1 hb
            rw [nI_clamp (lt31 hb)] at r1
            have hi : 12 * a + 2 * b + c < 72 := by omega
            simp only [if_pos hr, nI_clamp (lt31 hb), if_neg (gin hb), r1, bd1, gd_ok r2, ex_rd hC1 hb, hm, hm', LN_side_eq ha hb hc, MD_line_eq ha hb hc, LN_isPiece_eq hC1 hi, MD_owns_eq hi, nI_clamp (lt31 hi), if_neg (gin hi), nmI, nmS, gI_sA]
            by_cases h80 : gA τ1 8 b = 0
            · simp only [if_pos h80]
              exact ⟨_, _, _, rfl, rfl, hC1, hG1⟩
            · simp only [if_neg h80, if_neg (gin ha), nI_clamp (lt31 ha)]
              generalize hs : 12 * a + 2 * b + c = s at *
              have hl' : l < 2 ^ 31 := by omega
              have fin : ∃ (r : Int32) (σ2 τ2 : ST), TL_trust_c122 (nI l) x4 (nI s) σ1 = some (r, σ2) ∧ MD_trust_c148 x4 (nI s) (sA τ1 13 s (nI l)) = some (r, τ2) ∧ Core eE μ ν σ2 τ2 ∧ Good (K + 10) L τ2 := by
                unfold TL_trust_c122 MD_trust_c148
                simp only [nI_clamp (lt31 hi), if_neg (gin hi), nmS, gd_ok hx4]
                exact ⟨0, _, _, rfl, rfl, c_qui (c_lim hC1), g_qui (g_lim hG1 hl) (fun a' c' h5 h6 e => by omega)⟩
              have gs : gA (sA τ1 13 s (nI l)) 13 s = nI l := gA_eq
              have gs2 : gA (sA τ1 13 s (nI l)) 12 s = gA τ1 12 s := gA_ne (by decide)
              have gs9 : gA (sA τ1 13 s (nI l)) 9 a = gA τ1 9 a := gA_ne (by decide)
              have eo : own (sA τ1 13 s (nI l)) s = decide (0 < nI l ∨ 0 < gA τ1 12 s) := by
                unfold own
                rw [gs, gs2]
              by_cases c0 : nI l ≤ 0
              · simp only [if_pos c0]
                unfold TL_trust_c97
                simp only [i00, if_true]
                have nl : ¬ (0 : Int32) < nI l := Int32.not_lt.mpr c0
                by_cases cb : 0 < gA τ1 12 s
                · have o1 : own (sA τ1 13 s (nI l)) s = true := by rw [eo]; exact decide_eq_true (Or.inr cb)
                  have o2 : own τ1 s = true := by unfold own; exact decide_eq_true (Or.inr cb)
                  simp only [if_pos o1, if_pos o2, i10, if_false]
                  exact fin
                · have o1 : ¬ own (sA τ1 13 s (nI l)) s = true := by rw [eo]; exact fun z => (of_decide_eq_true z).elim nl cb
                  simp only [if_neg o1, i00, if_true]
                  exact fin
              · simp only [if_neg c0]
                have o1 : own (sA τ1 13 s (nI l)) s = true := by rw [eo]; exact decide_eq_true (Or.inl (Int32.not_le.mp c0))
                simp only [if_pos o1, i10, if_false]
                by_cases o2 : own τ1 s = true
                · simp only [if_pos o2, i10, if_false]
                  unfold TL_trust_c97
                  simp only [i00, if_true]
                  exact fin
                · simp only [if_neg o2, i00, if_true]
                  have o2' : own τ1 s = false := by
                    cases h : own τ1 s
                    · rfl
                    · exact absurd h o2
                  unfold TL_trust_c97
                  simp only [i10, if_false, hm']
                  have hp1 := pcs_up (τ := τ1) (a := a) (v := nI l) (by omega) o2' o1
                  have hple := pcs_le hG1 a
                  have af := ST_afford_eq hC1 hG1 ha (v := 0) (by omega) (by omega)
                  rw [show nI 0 = 0 by decide] at af
                  rw [af, MD_reserve_eq (g_lim hG1 hl) ha, hp1, gs9]
                  simp only [bd1]
                  have e3 : (nI (100 + 20 * (pcs τ1 a + 1))).toInt = ((100 + 20 * (pcs τ1 a + 1) : Nat) : Int) := nI_toInt (by omega)
                  by_cases cf : (gA τ1 9 a).toInt - ((0 : Nat) : Int) < ((120 + 20 * pcs τ1 a : Nat) : Int)
                  · have cn : ¬ nI (100 + 20 * (pcs τ1 a + 1)) ≤ gA τ1 9 a := fun z => by
                      have := Int32.le_iff_toInt_le.mp z
                      rw [e3] at this
                      omega
                    simp only [if_pos cf, i00, if_true, if_neg cn]
                    have er : sA (sA τ1 13 s (nI l)) 13 s (gA τ1 13 s) = τ1 := by rw [sA_sA, sA_self]
                    rw [er]
                    exact ⟨_, _, _, rfl, rfl, hC1, hG1⟩
                  · have cn : nI (100 + 20 * (pcs τ1 a + 1)) ≤ gA τ1 9 a := Int32.le_iff_toInt_le.mpr (by rw [e3]; omega)
                    simp only [if_neg cf, i10, if_false, if_pos cn]
                    exact fin
          · simp only [if_neg hr]
            exact ⟨r, _, _, rfl, rfl, hC1, hG1⟩
        · simp only [if_neg h4, i00, if_true]
          refine ⟨-1, σ, τ, bad, ?_, hC, hG'⟩
          by_cases h5 : x3 < 0
          · rw [if_pos h5]; exact badM
          · rw [if_neg h5, if_pos (Int32.not_le.mp (fun h => h4 ⟨Int32.not_lt.mp h5, h⟩))]; exact badM
      · have n1 : ¬ x2 = 1 := fun e => h3 (cur_iff.mpr (Or.inl e))
        have n2 : ¬ x2 = 2 := fun e => h3 (cur_iff.mpr (Or.inr e))
        simp only [if_neg h3, i00, if_true, if_neg n1, if_neg n2]
        exact ⟨-1, σ, τ, bad, badM, hC, hG'⟩
  · simp only [if_neg h1, if_neg (show ¬ ((0 ≤ x1 ∧ x1 ≤ 5) ∧ x1 ≠ gI τ 25) from fun z => h1 z.1), i00, if_true]
    exact ⟨-1, σ, τ, bad, badM, hC, hG'⟩
end TRN
