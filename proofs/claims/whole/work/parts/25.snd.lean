section SND
variable {eE : Nat × Nat} {μ ν σ τ : ST} {K L : Nat}
theorem sA_comm {b c i j : Nat} {v w : Int32} (h : b ≠ c) : sA (sA σ b i v) c j w = sA (sA σ c j w) b i v := by
  have : va_up (va_up σ.2.2.1 b (upd (σ.2.2.1 b) i v)) c (upd (va_up σ.2.2.1 b (upd (σ.2.2.1 b) i v) c) j w) = va_up (va_up σ.2.2.1 c (upd (σ.2.2.1 c) j w)) b (upd (va_up σ.2.2.1 c (upd (σ.2.2.1 c) j w) b) i v) := by
    rw [va_up_ne _ _ (Ne.symm h), va_up_ne _ _ h]
    funext a
    by_cases h1 : a = b
    · subst h1
      rw [va_up_ne _ _ h, va_up_self, va_up_self]
    · by_cases h2 : a = c
      · subst h2
        rw [va_up_self, va_up_ne _ _ h1, va_up_self]
      · rw [va_up_ne _ _ h2, va_up_ne _ _ h1, va_up_ne _ _ h1, va_up_ne _ _ h2]
  show (σ.1, σ.2.1, _, σ.2.2.2) = (σ.1, σ.2.1, _, σ.2.2.2)
  exact congrArg (fun z => (σ.1, σ.2.1, z, σ.2.2.2)) this
theorem sA_sA {b i : Nat} {v w : Int32} : sA (sA σ b i v) b i w = sA σ b i w := by
  have : va_up (va_up σ.2.2.1 b (upd (σ.2.2.1 b) i v)) b (upd (va_up σ.2.2.1 b (upd (σ.2.2.1 b) i v) b) i w) = va_up σ.2.2.1 b (upd (σ.2.2.1 b) i w) := by
    rw [va_up_self]
    funext a
    by_cases h1 : a = b
    · subst h1
      rw [va_up_self, va_up_self]
      funext j
      by_cases h2 : j = i
      · subst h2
        rw [pk_us, pk_us]
      · rw [pk_un h2, pk_un h2, pk_un h2]
    · rw [va_up_ne _ _ h1, va_up_ne _ _ h1, va_up_ne _ _ h1]
  show (σ.1, σ.2.1, _, σ.2.2.2) = (σ.1, σ.2.1, _, σ.2.2.2)
  exact congrArg (fun z => (σ.1, σ.2.1, z, σ.2.2.2)) this
theorem sA_self {b i : Nat} : sA σ b i (gA σ b i) = σ := by
  have : va_up σ.2.2.1 b (upd (σ.2.2.1 b) i (gA σ b i)) = σ.2.2.1 := by
    funext a
    by_cases h1 : a = b
    · subst h1
      rw [va_up_self]
      funext j
      by_cases h2 : j = i
      · subst h2
        rw [pk_us]
        rfl
      · rw [pk_un h2]
    · rw [va_up_ne _ _ h1]
  show (σ.1, σ.2.1, _, σ.2.2.2) = σ
  rw [this]
/-- what an account has of k changes -/
def chg (τ : ST) (a k : Nat) (v : Int32) : ST := if k = 0 then sA τ 9 a (gA τ 9 a + v) else if (k - 1) % 6 = a then τ else sA (sA τ 12 (cel a k) (gA τ 12 (cel a k) + v)) 12 (cem a k) (gA τ 12 (cem a k) - v)
theorem cc_ne {a k : Nat} (ha : a < 6) (h : (k - 1) % 6 ≠ a) : cem a k ≠ cel a k := by unfold cem cel; omega
theorem LN_cel {a k : Nat} (ha : a < 6) (hk : k < 13) : LN_side (nI a) (nI ((k - 1) % 6)) (nI ((k - 1) / 6 + 1)) = some (nI (cel a k)) := LN_side_eq ha (Nat.mod_lt _ (by decide)) (by omega)
theorem LN_cem {a k : Nat} (ha : a < 6) (hk : k < 13) : LN_side (nI ((k - 1) % 6)) (nI a) (nI ((k - 1) / 6 + 1)) = some (nI (cem a k)) := LN_side_eq (Nat.mod_lt _ (by decide)) ha (by omega)
theorem MD_cel {a k : Nat} (ha : a < 6) (hk : k < 13) : MD_line (nI a) (nI ((k - 1) % 6)) (nI ((k - 1) / 6 + 1)) = some (nI (cel a k)) := MD_line_eq ha (Nat.mod_lt _ (by decide)) (by omega)
theorem MD_cem {a k : Nat} (ha : a < 6) (hk : k < 13) : MD_line (nI ((k - 1) % 6)) (nI a) (nI ((k - 1) / 6 + 1)) = some (nI (cem a k)) := MD_line_eq (Nat.mod_lt _ (by decide)) ha (by omega)
theorem chg_0 {a : Nat} {v : Int32} : chg τ a 0 v = sA τ 9 a (gA τ 9 a + v) := if_pos rfl
theorem chg_i {a k : Nat} {v : Int32} (h0 : k ≠ 0) (h : (k - 1) % 6 = a) : chg τ a k v = τ := (if_neg h0).trans (if_pos h)
theorem chg_l {a k : Nat} {v : Int32} (h0 : k ≠ 0) (h : (k - 1) % 6 ≠ a) : chg τ a k v = sA (sA τ 12 (cel a k) (gA τ 12 (cel a k) + v)) 12 (cem a k) (gA τ 12 (cem a k) - v) := (if_neg h0).trans (if_neg h)
theorem LN_grow_eq {a b c i j : Nat} {v : Int32} (hC : Core eE μ ν σ τ) (h1 : LN_side (nI a) (nI b) (nI c) = some (nI i)) (h2 : LN_side (nI b) (nI a) (nI c) = some (nI j)) (hi : i < 72) (hj : j < 72) (hne : j ≠ i) : LN_grow (nI a) (nI b) (nI c) v σ = some (sA (sA σ 0 i (gA τ 12 i + v)) 0 j (gA τ 12 j - v)) := by
  unfold LN_grow
  have e1 : gA σ 0 i = gA τ 12 i := (hC.2.2.1 _ hi).1
  have e2 : gA σ 0 j = gA τ 12 j := (hC.2.2.1 _ hj).1
  have e3 : gA (sA σ 0 i (gA τ 12 i + v)) 0 j = gA τ 12 j := (gA_nj hne).trans e2
  simp only [h1, h2, bd1, nmS, nI_clamp (lt31 hi), if_neg (gin hi), nI_clamp (lt31 hj), if_neg (gin hj), e1, e3]
theorem s_change {a k : Nat} {v : Int32} (hC : Core eE μ ν σ τ) (ha : a < 6) (hk : k < 13) : ∃ σ1 : ST, ST_change (nI a) (nI k) v σ = some σ1 ∧ Core eE μ ν σ1 (chg τ a k v) := by
  unfold ST_change
  by_cases h0 : k = 0
  · subst h0
    obtain ⟨r1, r2⟩ := acc_rd hC ha
    rw [nI_clamp (lt31 ha)] at r1
    rw [if_pos (show nI 0 = 0 by decide), chg_0]
    simp only [nI_clamp (lt31 ha), if_neg (gin ha), r1, bd1, gd_ok r2, nmS, (hC.2.1.1 a ha).2.2.2.1]
    exact ⟨_, rfl, c_coin ha hC⟩
  · rw [if_neg (fun z => h0 ((nI_k0 hk).mp z)), TL_iss (by omega) hk, TL_cur (by omega) hk]
    by_cases h1 : (k - 1) % 6 = a
    · rw [chg_i h0 h1]
      simp only [bd1]
      rw [if_pos (by rw [h1])]
      exact ⟨_, rfl, hC⟩
    · rw [chg_l h0 h1]
      simp only [bd1]
      rw [if_neg (fun z => h1 ((nI_eq (by omega) (by omega)).mp z).symm)]
      rw [LN_grow_eq hC (LN_cel ha hk) (LN_cem ha hk) (cel_lt ha hk) (cem_lt ha hk) (cc_ne ha h1)]
      exact ⟨_, rfl, c_bal (c_bal hC)⟩
theorem MD_change_eq {a k : Nat} {v : Int64} (ha : a < 6) (hk : k < 13) : MD_change (nI a) (nI k) v τ = some (chg τ a k v.toInt32) := by
  unfold MD_change chg
  by_cases h0 : k = 0
  · subst h0
    simp only [if_pos (show nI 0 = 0 by decide), if_true, nI_clamp (lt31 ha), if_neg (gin ha), nmS]
  · rw [if_neg (fun z => h0 ((nI_k0 hk).mp z)), if_neg h0, MD_iss (by omega) hk, MD_cur (by omega) hk]
    simp only [bd1]
    have hi : (k - 1) % 6 < 6 := by omega
    by_cases h1 : (k - 1) % 6 = a
    · rw [if_pos h1, if_pos (by rw [h1])]
    · rw [if_neg h1, if_neg (fun z => h1 ((nI_eq (by omega) (by omega)).mp z))]
      have hc := cel_lt ha hk
      have hm := cem_lt ha hk
      have hne := cc_ne ha h1
      rw [MD_cel ha hk, MD_cem ha hk]
      have e3 : gA (sA τ 12 (cel a k) (gA τ 12 (cel a k) + v.toInt32)) 12 (cem a k) = gA τ 12 (cem a k) := gA_nj hne
      simp only [bd1, nmS, nI_clamp (lt31 hc), if_neg (gin hc), nI_clamp (lt31 hm), if_neg (gin hm), e3]
theorem g_change {a k D : Nat} {v : Int32} (hG : Good K L τ) (ha : a < 6) (hk : k < 13) (hv : Ab D v) (hK : K + D < 2 ^ 31) : Good (K + D) L (chg τ a k v) := by
  have hG' : Good (K + D) L τ := hG.mono (by omega) (Nat.le_refl _)
  unfold chg
  split
  · exact g_coin hG' ((hG.2.1 a ha).2.1.add hv hK)
  · split
    · exact hG'
    · exact g_bal (g_bal hG' ((hG.2.2.1 _ (cel_lt ha hk)).1.add hv hK)) ((hG.2.2.1 _ (cem_lt ha hk)).1.sub hv hK)
theorem TL_isOther_eq (hC : Core eE μ ν σ τ) (x : Int32) : TL_isOther x σ = some (if (0 ≤ x ∧ x ≤ 5) ∧ x ≠ gI τ 25 then 1 else 0) := by
  unfold TL_isOther
  simp only [TL_isAccount_eq, bd1, hC.1.1]
  by_cases h1 : 0 ≤ x ∧ x ≤ 5
  · by_cases h2 : x = gI τ 25
    · simp only [if_pos h1, i10, if_false, if_pos h2, if_neg (show ¬ ((0 ≤ x ∧ x ≤ 5) ∧ x ≠ gI τ 25) from fun z => z.2 h2)]
    · simp only [if_pos h1, i10, if_false, if_neg h2, if_pos (show (0 ≤ x ∧ x ≤ 5) ∧ x ≠ gI τ 25 from ⟨h1, h2⟩)]
  · simp only [if_neg h1, i00, if_true, if_neg (show ¬ ((0 ≤ x ∧ x ≤ 5) ∧ x ≠ gI τ 25) from fun z => h1 z.1)]
theorem TL_charge0 : TL_charge 0 σ = some (-1, σ) := if_pos rfl
theorem MD_begin0 : MD_begin 0 τ = some (-1, τ) := if_pos rfl
theorem im10 : ((-1 : Int32) = 0) = False := eq_false (by decide)
theorem s_send {x1 x2 : Int32} (hC : Core eE μ ν σ τ) (hG : Good K L τ) (hK : K + 2100000 < 2 ^ 31) : ∃ (r : Int32) (σ1 τ1 : ST), TL_send x1 x2 σ = some (r, σ1) ∧ MD_send x1 x2 τ = some (r, τ1) ∧ Core eE μ ν σ1 τ1 ∧ Good (K + 2100000) L τ1 := by
  have bad : TL_send_c24 x1 x2 0 σ = some (-1, σ) := by
    unfold TL_send_c24
    simp only [TL_charge0, bd2, im10, if_false]
  have badM : MD_send_c32 x1 x2 0 τ = some (-1, τ) := by
    unfold MD_send_c32
    simp only [MD_begin0, bd2, im10, if_false]
  have hG' : Good (K + 2100000) L τ := hG.mono (by omega) (Nat.le_refl _)
  unfold TL_send MD_send
  simp only [TL_isOther_eq hC, MD_isAccount_eq, TL_isWithin_eq, bd1]
  by_cases h1 : 0 ≤ x1 ∧ x1 ≤ 5
  · by_cases h2 : x1 = gI τ 25
    · simp only [if_neg (show ¬ ((0 ≤ x1 ∧ x1 ≤ 5) ∧ x1 ≠ gI τ 25) from fun z => z.2 h2), if_pos h1, if_pos h2, i00, i10, if_true, if_false]
      exact ⟨-1, σ, τ, bad, badM, hC, hG'⟩
    · simp only [if_pos (show (0 ≤ x1 ∧ x1 ≤ 5) ∧ x1 ≠ gI τ 25 from ⟨h1, h2⟩), if_pos h1, if_neg h2, i10, if_false]
      by_cases h3 : 1 ≤ x2 ∧ x2 ≤ 1000000
      · simp only [if_pos h3, i10, if_false, if_neg (Int32.not_lt.mpr h3.1), if_neg (Int32.not_lt.mpr h3.2)]
        unfold TL_send_c24 MD_send_c32
        obtain ⟨r, σ1, τ1, t1, t2, hC1, hG1, h0⟩ := s_charge 1 hC hG (by omega)
        simp only [bd2, t1, t2]
        by_cases hr : r = 0
        · obtain ⟨_, a, ha, hm, hm', h8⟩ := h0 hr
          obtain ⟨b, hb, rfl⟩ := acct_of h1
          obtain ⟨v, hv1, hv2, rfl⟩ := rng_of (M := 1000000) (n := 1000000) (by decide) h3
          obtain ⟨r1, r2⟩ := acc_rd hC1 hb
          rw [nI_clamp (lt31 hb)] at r1
          simp only [if_pos hr, nI_clamp (lt31 hb), if_neg (gin hb), r1, bd1, gd_ok r2, ex_rd hC1 hb]
          have main : ∃ (r : Int32) (σ2 τ2 : ST), TL_send_c62 (nI b) (nI v) (aq σ1 b) σ1 = some (r, σ2) ∧ MD_send_c60 (nI b) (nI v) τ1 = some (r, τ2) ∧ Core eE μ ν σ2 τ2 ∧ Good (K + 2100000) L τ2 := by
            unfold TL_send_c62 MD_send_c60
            have f1 := ST_fundsOf_eq hC1 hG1 ha (k := 0) (by decide)
            have f2 := MD_fundsIn_eq hG1 ha (k := 0) (by decide)
            rw [show nI 0 = 0 by decide] at f1 f2
            simp only [hm, hm', f1, f2, bd1]
            by_cases hf : nI v ≤ nI (fnd τ1 a 0)
            · simp only [if_pos hf, gd_ok r2, nmS, if_neg (gin ha), nI_clamp (lt31 ha), if_neg (gin hb), nI_clamp (lt31 hb), gI_sP, hm']
              have e8 : gA (sA (sA τ1 9 a (gA τ1 9 a - nI v)) 9 b (gA (sA τ1 9 a (gA τ1 9 a - nI v)) 9 b + nI v)) 8 b = gA τ1 8 b := by rw [gA_ne (by decide), gA_ne (by decide)]
              have hA1 : Ab 1000000 (nI v) := Ab_nI hv2 (by omega)
              have hA2 : Ab 1000000 (-nI v) := hA1.neg (by decide)
              have hz : (0 : Int32) = nI 0 := by decide
              rw [e8]
              have sub : ∀ x : Int32, x - nI v = x + -nI v := fun x => Int32.sub_eq_add_neg x (nI v)
              rcases (hG1.2.1 b hb).1 with h80 | h81
              · have c1 := c_new hb h80 hC1
                obtain ⟨σ2, e2, c2⟩ := s_change (a := a) (k := 0) (v := -nI v) c1 ha (by decide)
                obtain ⟨σ3, e3, c3⟩ := s_change (a := b) (k := 0) (v := nI v) c2 hb (by decide)
                rw [← hz] at e2 e3
                simp only [if_pos h80, e2, e3]
                refine ⟨0, _, _, rfl, rfl, ?_, ?_⟩
                · have : chg (chg (sA (sA τ1 8 b 1) 10 b 1) a 0 (-nI v)) b 0 (nI v) = sA (sA (sA (sA τ1 9 a (gA τ1 9 a - nI v)) 9 b (gA (sA τ1 9 a (gA τ1 9 a - nI v)) 9 b + nI v)) 8 b 1) 10 b 1 := by
                    unfold chg
                    simp only [if_true]
                    rw [gA_ne (σ := sA τ1 8 b 1) (b := 9) (c := 10) (by decide), gA_ne (σ := τ1) (b := 9) (c := 8) (by decide), ← sub]
                    rw [sA_comm (b := 10) (c := 9) (by decide), sA_comm (b := 8) (c := 9) (by decide)]
                    rw [gA_ne (b := 9) (c := 10) (by decide), gA_ne (b := 9) (c := 8) (by decide)]
                    rw [sA_comm (b := 10) (c := 9) (by decide), sA_comm (b := 8) (c := 9) (by decide)]
                  rw [this] at c3
                  exact c3
                · have g1 := g_change (a := b) (k := 0) (v := nI v) (g_change (a := a) (k := 0) (v := -nI v) hG1 ha (by decide) hA2 (by omega)) hb (by decide) hA1 (by omega)
                  have g2 := g_num (a := b) (v := 1) (g_ex (a := b) g1)
                  unfold chg at g2
                  simp only [if_true, ← sub] at g2
                  exact g2.mono (by omega) (Nat.le_refl _)
              · have c1 := c_old hb h81 hC1
                obtain ⟨σ2, e2, c2⟩ := s_change (a := a) (k := 0) (v := -nI v) c1 ha (by decide)
                obtain ⟨σ3, e3, c3⟩ := s_change (a := b) (k := 0) (v := nI v) c2 hb (by decide)
                rw [← hz] at e2 e3
                have n8 : ¬ gA τ1 8 b = 0 := by rw [h81]; decide
                simp only [if_neg n8, e2, e3]
                refine ⟨0, _, _, rfl, rfl, ?_, ?_⟩
                · unfold chg at c3
                  simp only [if_true, ← sub] at c3
                  exact c3
                · have g1 := g_change (a := b) (k := 0) (v := nI v) (g_change (a := a) (k := 0) (v := -nI v) hG1 ha (by decide) hA2 (by omega)) hb (by decide) hA1 (by omega)
                  unfold chg at g1
                  simp only [if_true, ← sub] at g1
                  exact g1.mono (by omega) (Nat.le_refl _)
            · simp only [if_neg hf]
              exact ⟨22, _, _, rfl, rfl, hC1, hG1.mono (by omega) (Nat.le_refl _)⟩
          by_cases h80 : gA τ1 8 b = 0
          · simp only [if_pos h80]
            by_cases h100 : 100 ≤ nI v
            · simp only [if_pos h100]
              exact main
            · simp only [if_neg h100]
              exact ⟨21, _, _, rfl, rfl, hC1, hG1.mono (by omega) (Nat.le_refl _)⟩
          · simp only [if_neg h80]
            exact main
        · simp only [if_neg hr]
          exact ⟨r, _, _, rfl, rfl, hC1, hG1.mono (by omega) (Nat.le_refl _)⟩
      · simp only [if_neg h3, i00, if_true]
        refine ⟨-1, σ, τ, bad, ?_, hC, hG'⟩
        by_cases h4 : x2 < 1
        · rw [if_pos h4]; exact badM
        · rw [if_neg h4, if_pos (Int32.not_le.mp (fun h => h3 ⟨Int32.not_lt.mp h4, h⟩))]; exact badM
  · simp only [if_neg h1, if_neg (show ¬ ((0 ≤ x1 ∧ x1 ≤ 5) ∧ x1 ≠ gI τ 25) from fun z => h1 z.1), i00, if_true]
    exact ⟨-1, σ, τ, bad, badM, hC, hG'⟩
end SND
