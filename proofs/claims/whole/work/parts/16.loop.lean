section LAW
variable {X : JX} {l : Launch} {D : va_G} {ad : Nat → Nat} {cs : Nat → ClassId} {eE : Nat × Nat} {cd : Cond} {b L c k n : Nat} {xs : Nat → Int32} {σ : ST} {Inv : Nat → ST → Prop}
theorem nI_ex {x : Int32} (h0 : 0 ≤ x.toInt) : ∃ m : Nat, x = nI m ∧ (m : Int) = x.toInt := by
  have hn : ¬ x < 0 := fun h => by
    have := Int32.lt_iff_toInt_lt.mp h
    have e0 : (0 : Int32).toInt = 0 := by decide
    omega
  obtain ⟨m, hm, rfl⟩ := nI_of hn
  exact ⟨m, rfl, (nI_toInt hm).symm⟩
theorem sw20 {x : Int32} (h : ¬ (x.toInt < 0 ∨ 19 < x.toInt)) : x = 0 ∨ x = 1 ∨ x = 2 ∨ x = 3 ∨ x = 4 ∨ x = 5 ∨ x = 6 ∨ x = 7 ∨ x = 8 ∨ x = 9 ∨ x = 10 ∨ x = 11 ∨ x = 12 ∨ x = 13 ∨ x = 14 ∨ x = 15 ∨ x = 16 ∨ x = 17 ∨ x = 18 ∨ x = 19 := by
  obtain ⟨m, rfl, hm⟩ := nI_ex (x := x) (by omega)
  have hm2 : m ≤ 19 := by omega
  have : m = 0 ∨ m = 1 ∨ m = 2 ∨ m = 3 ∨ m = 4 ∨ m = 5 ∨ m = 6 ∨ m = 7 ∨ m = 8 ∨ m = 9 ∨ m = 10 ∨ m = 11 ∨ m = 12 ∨ m = 13 ∨ m = 14 ∨ m = 15 ∨ m = 16 ∨ m = 17 ∨ m = 18 ∨ m = 19 := by omega
  rcases this with rfl | rfl | rfl | rfl | rfl | rfl | rfl | rfl | rfl | rfl | rfl | rfl | rfl | rfl | rfl | rfl | rfl | rfl | rfl | rfl <;> decide
def AllOk (eE : Nat × Nat) (Inv : Nat → ST → Prop) : Prop := ok_by eE Inv ∧ ok_send eE Inv ∧ ok_trust eE Inv ∧ ok_rate eE Inv ∧ ok_spend eE Inv ∧ ok_pay eE Inv ∧ ok_offer eE Inv ∧ ok_cancel eE Inv ∧ ok_deposit eE Inv ∧ ok_settle eE Inv ∧ ok_tick eE Inv ∧ ok_account eE Inv ∧ ok_balance eE Inv ∧ ok_limit eE Inv ∧ ok_funds eE Inv ∧ ok_book eE Inv ∧ ok_offerOf eE Inv ∧ ok_depositOf eE Inv ∧ ok_burnt eE Inv ∧ ok_root eE Inv
set_option maxRecDepth 100000 in
set_option maxHeartbeats 8000000 in
theorem law_loop (C : JC X l D (ttf cs) eE b_LW_law "TollLedgerLaw" 4 (cd :: BIG) 11 428 600000 7302250) (hX : SX X b L xs) (hL : L ≤ 3072) (hret : ∀ (k n : Nat) (σ : ST) (pc : Nat) (loc : List (Nat × Value)), k ≤ 600000 → n ≤ 7302250 → decode code pc = .ok (.ireturn, 1) → J (wfm ad cs) X 4 k n σ pc loc [.int 1]) (hok : AllOk eE Inv) (hmono : ∀ (c : Nat) (σ : ST), Inv c σ → Inv (c + 1) σ) : ∀ (N c k n : Nat) (σ : ST), 513 - c ≤ N → c ≤ 512 → Inv c σ → k ≤ 100 + 2 * c → n ≤ 1000 + 21 * c → J (wfm ad cs) X 4 k n σ 18 [(0, .ref b), (1, .ref (ad 0)), (2, .ref (ad 18)), (3, .int (nI (6 * c)))] [] := by
  obtain ⟨o0, o1, o2, o3, o4, o5, o6, o7, o8, o9, o10, o11, o12, o13, o14, o15, o16, o17, o18, o19⟩ := hok
  intro N
  induction N with
  | zero => intro c k n σ h1 h2; omega
  | succ N ih =>
    intro c k n σ h1 h2 hI hk hn
    have kend : c < 512 → ∀ (k' n' : Nat) (σ2 : ST), k' ≤ k + 2 → n' ≤ n + 21 → Inv (c + 1) σ2 → J (wfm ad cs) X 4 k' n' σ2 850 [(0, .ref b), (1, .ref (ad 0)), (2, .ref (ad 18)), (3, .int (nI (6 * c)))] [] := by
      intro hc k' n' σ2 hk' hn' hI2
      refine j_iinc C 3 rfl (v := nI (6 * (c + 1))) (by rw [inc_p6, nI_p6]; rfl) (by decide) (loc' := [(3, .int (nI (6 * (c + 1)))), (0, .ref b), (1, .ref (ad 0)), (2, .ref (ad 18))]) rfl d_LW_law_850 ?_
      refine j_goto C d_LW_law_853 rfl ?_
      refine j_sub (loc' := [(0, .ref b), (1, .ref (ad 0)), (2, .ref (ad 18)), (3, .int (nI (6 * (c + 1))))]) [1, 2, 3, 0] rfl ?_
      exact ih (c + 1) k' n' σ2 (by omega) (by omega) hI2 (by omega) (by omega)
    refine j_iload_n C 3 rfl rfl d_LW_law_18 ?_
    refine j_aload_n C 0 rfl rfl d_LW_law_19 ?_
    refine j_slen C hX d_LW_law_20 ?_
    refine j_bipush C (v := 6) (by decide) d_LW_law_21 ?_
    refine j_isub C d_LW_law_23 ?_
    have hsub : (nI L - 6).toInt = (L : Int) - 6 := pk_sub_toInt (a := L) (b := 6) (by omega) (by decide)
    have h6 : (nI (6 * c)).toInt = ((6 * c : Nat) : Int) := nI_toInt (by omega)
    refine j_icmp_gt C d_LW_law_24 rfl (fun h => ?_) (fun h => ?_)
    · refine j_iconst C (v := 1) (by decide) d_LW_law_856 ?_
      exact hret k n σ _ _ (by omega) (by omega) d_LW_law_857
    · have hc6 : 6 * c + 6 ≤ L := by
        have hh : ¬ (nI L - 6).toInt < (nI (6 * c)).toInt := fun z => h (Int32.lt_iff_toInt_lt.mpr z)
        rw [hsub, h6] at hh
        omega
      have hc : c < 512 := by omega
      refine j_aload_n C 0 rfl rfl d_LW_law_27 ?_
      refine j_iload_n C 3 rfl rfl d_LW_law_28 ?_
      refine j_sld C hX (6 * c) (by omega) (by omega) rfl d_LW_law_29 ?_
      refine j_bipush C (v := 31) (by decide) d_LW_law_30 ?_
      refine j_iand C d_LW_law_32 ?_
      by_cases hsw : (xs (6 * c) &&& 31).toInt < 0 ∨ 19 < (xs (6 * c) &&& 31).toInt
      · refine j_tableOut C d_LW_law_33 hsw rfl ?_
        exact kend hc k n σ (by omega) (by omega) (hmono c σ hI)
      · rcases sw20 hsw with h | h | h | h | h | h | h | h | h | h | h | h | h | h | h | h | h | h | h | h
        · refine j_tableIn (off := 95) (tgt := 128) C d_LW_law_33 (by rw [h]; decide) (by rw [h]; decide) (by rw [h]; rfl) rfl ?_
          exact law_by C hX hL hc6 (by omega) (by omega) o0 hI (fun σ2 hI2 => kend hc _ _ σ2 (by omega) (by omega) hI2)
        · refine j_tableIn (off := 128) (tgt := 161) C d_LW_law_33 (by rw [h]; decide) (by rw [h]; decide) (by rw [h]; rfl) rfl ?_
          exact law_send C hX hL hc6 (by omega) (by omega) o1 hI (fun σ2 hI2 => kend hc _ _ σ2 (by omega) (by omega) hI2)
        · refine j_tableIn (off := 161) (tgt := 194) C d_LW_law_33 (by rw [h]; decide) (by rw [h]; decide) (by rw [h]; rfl) rfl ?_
          exact law_trust C hX hL hc6 (by omega) (by omega) o2 hI (fun σ2 hI2 => kend hc _ _ σ2 (by omega) (by omega) hI2)
        · refine j_tableIn (off := 230) (tgt := 263) C d_LW_law_33 (by rw [h]; decide) (by rw [h]; decide) (by rw [h]; rfl) rfl ?_
          exact law_rate C hX hL hc6 (by omega) (by omega) o3 hI (fun σ2 hI2 => kend hc _ _ σ2 (by omega) (by omega) hI2)
        · refine j_tableIn (off := 253) (tgt := 286) C d_LW_law_33 (by rw [h]; decide) (by rw [h]; decide) (by rw [h]; rfl) rfl ?_
          exact law_spend C hX hL hc6 (by omega) (by omega) o4 hI (fun σ2 hI2 => kend hc _ _ σ2 (by omega) (by omega) hI2)
        · refine j_tableIn (off := 312) (tgt := 345) C d_LW_law_33 (by rw [h]; decide) (by rw [h]; decide) (by rw [h]; rfl) rfl ?_
          exact law_pay C hX hL hc6 (by omega) (by omega) o5 hI (fun σ2 hI2 => kend hc _ _ σ2 (by omega) (by omega) hI2)
        · refine j_tableIn (off := 355) (tgt := 388) C d_LW_law_33 (by rw [h]; decide) (by rw [h]; decide) (by rw [h]; rfl) rfl ?_
          exact law_offer C hX hL hc6 (by omega) (by omega) o6 hI (fun σ2 hI2 => kend hc _ _ σ2 (by omega) (by omega) hI2)
        · refine j_tableIn (off := 418) (tgt := 451) C d_LW_law_33 (by rw [h]; decide) (by rw [h]; decide) (by rw [h]; rfl) rfl ?_
          exact law_cancel C hX hL hc6 (by omega) (by omega) o7 hI (fun σ2 hI2 => kend hc _ _ σ2 (by omega) (by omega) hI2)
        · refine j_tableIn (off := 441) (tgt := 474) C d_LW_law_33 (by rw [h]; decide) (by rw [h]; decide) (by rw [h]; rfl) rfl ?_
          exact law_deposit C hX hL hc6 (by omega) (by omega) o8 hI (fun σ2 hI2 => kend hc _ _ σ2 (by omega) (by omega) hI2)
        · refine j_tableIn (off := 494) (tgt := 527) C d_LW_law_33 (by rw [h]; decide) (by rw [h]; decide) (by rw [h]; rfl) rfl ?_
          exact law_settle C hX hL hc6 (by omega) (by omega) o9 hI (fun σ2 hI2 => kend hc _ _ σ2 (by omega) (by omega) hI2)
        · refine j_tableIn (off := 517) (tgt := 550) C d_LW_law_33 (by rw [h]; decide) (by rw [h]; decide) (by rw [h]; rfl) rfl ?_
          exact law_tick C hX hL hc6 (by omega) (by omega) o10 hI (fun σ2 hI2 => kend hc _ _ σ2 (by omega) (by omega) hI2)
        · refine j_tableIn (off := 540) (tgt := 573) C d_LW_law_33 (by rw [h]; decide) (by rw [h]; decide) (by rw [h]; rfl) rfl ?_
          exact law_account C hX hL hc6 (by omega) (by omega) o11 hI (fun σ2 hI2 => kend hc _ _ σ2 (by omega) (by omega) hI2)
        · refine j_tableIn (off := 573) (tgt := 606) C d_LW_law_33 (by rw [h]; decide) (by rw [h]; decide) (by rw [h]; rfl) rfl ?_
          exact law_balance C hX hL hc6 (by omega) (by omega) o12 hI (fun σ2 hI2 => kend hc _ _ σ2 (by omega) (by omega) hI2)
        · refine j_tableIn (off := 616) (tgt := 649) C d_LW_law_33 (by rw [h]; decide) (by rw [h]; decide) (by rw [h]; rfl) rfl ?_
          exact law_limit C hX hL hc6 (by omega) (by omega) o13 hI (fun σ2 hI2 => kend hc _ _ σ2 (by omega) (by omega) hI2)
        · refine j_tableIn (off := 659) (tgt := 692) C d_LW_law_33 (by rw [h]; decide) (by rw [h]; decide) (by rw [h]; rfl) rfl ?_
          exact law_funds C hX hL hc6 (by omega) (by omega) o14 hI (fun σ2 hI2 => kend hc _ _ σ2 (by omega) (by omega) hI2)
        · refine j_tableIn (off := 692) (tgt := 725) C d_LW_law_33 (by rw [h]; decide) (by rw [h]; decide) (by rw [h]; rfl) rfl ?_
          exact law_book C hX hL hc6 (by omega) (by omega) o15 hI (fun σ2 hI2 => kend hc _ _ σ2 (by omega) (by omega) hI2)
        · refine j_tableIn (off := 735) (tgt := 768) C d_LW_law_33 (by rw [h]; decide) (by rw [h]; decide) (by rw [h]; rfl) rfl ?_
          exact law_offerOf C hX hL hc6 (by omega) (by omega) o16 hI (fun σ2 hI2 => kend hc _ _ σ2 (by omega) (by omega) hI2)
        · refine j_tableIn (off := 768) (tgt := 801) C d_LW_law_33 (by rw [h]; decide) (by rw [h]; decide) (by rw [h]; rfl) rfl ?_
          exact law_depositOf C hX hL hc6 (by omega) (by omega) o17 hI (fun σ2 hI2 => kend hc _ _ σ2 (by omega) (by omega) hI2)
        · refine j_tableIn (off := 791) (tgt := 824) C d_LW_law_33 (by rw [h]; decide) (by rw [h]; decide) (by rw [h]; rfl) rfl ?_
          exact law_burnt C hX hL hc6 (by omega) (by omega) o18 hI (fun σ2 hI2 => kend hc _ _ σ2 (by omega) (by omega) hI2)
        · refine j_tableIn (off := 804) (tgt := 837) C d_LW_law_33 (by rw [h]; decide) (by rw [h]; decide) (by rw [h]; rfl) rfl ?_
          exact law_root C hX hL hc6 (by omega) (by omega) o19 hI (fun σ2 hI2 => kend hc _ _ σ2 (by omega) (by omega) hI2)
end LAW
