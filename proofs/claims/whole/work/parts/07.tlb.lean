section
variable {l : Launch} {D : va_G} {ad : Nat → Nat} {cs : Nat → ClassId} {eE : Nat × Nat}
theorem d_TK_carryOut_0 : decode b_TK_carryOut 0 = .ok (.iconst 0, 1) := by decide +kernel
theorem d_TK_carryOut_1 : decode b_TK_carryOut 1 = .ok (.istore_n 1, 1) := by decide +kernel
theorem d_TK_carryOut_2 : decode b_TK_carryOut 2 = .ok (.iload_n 1, 1) := by decide +kernel
theorem d_TK_carryOut_3 : decode b_TK_carryOut 3 = .ok (.aload_n 0, 1) := by decide +kernel
theorem d_TK_carryOut_4 : decode b_TK_carryOut 4 = .ok (.getfield 119, 3) := by decide +kernel
theorem d_TK_carryOut_7 : decode b_TK_carryOut 7 = .ok (.if_icmp .ge 124, 3) := by decide +kernel
theorem d_TK_carryOut_10 : decode b_TK_carryOut 10 = .ok (.aload_n 0, 1) := by decide +kernel
theorem d_TK_carryOut_11 : decode b_TK_carryOut 11 = .ok (.getfield 12, 3) := by decide +kernel
theorem d_TK_carryOut_14 : decode b_TK_carryOut 14 = .ok (.getfield 72, 3) := by decide +kernel
theorem d_TK_carryOut_17 : decode b_TK_carryOut 17 = .ok (.iload_n 1, 1) := by decide +kernel
theorem d_TK_carryOut_18 : decode b_TK_carryOut 18 = .ok (.aaload, 1) := by decide +kernel
theorem d_TK_carryOut_19 : decode b_TK_carryOut 19 = .ok (.astore_n 2, 1) := by decide +kernel
theorem d_TK_carryOut_20 : decode b_TK_carryOut 20 = .ok (.aload_n 2, 1) := by decide +kernel
theorem d_TK_carryOut_21 : decode b_TK_carryOut 21 = .ok (.getfield 83, 3) := by decide +kernel
theorem d_TK_carryOut_24 : decode b_TK_carryOut 24 = .ok (.istore_n 3, 1) := by decide +kernel
theorem d_TK_carryOut_25 : decode b_TK_carryOut 25 = .ok (.aload_n 0, 1) := by decide +kernel
theorem d_TK_carryOut_26 : decode b_TK_carryOut 26 = .ok (.getfield 25, 3) := by decide +kernel
theorem d_TK_carryOut_29 : decode b_TK_carryOut 29 = .ok (.iload_n 3, 1) := by decide +kernel
theorem d_TK_carryOut_30 : decode b_TK_carryOut 30 = .ok (.iaload, 1) := by decide +kernel
theorem d_TK_carryOut_31 : decode b_TK_carryOut 31 = .ok (.ifCond .ne 11, 3) := by decide +kernel
theorem d_TK_carryOut_34 : decode b_TK_carryOut 34 = .ok (.aload_n 2, 1) := by decide +kernel
theorem d_TK_carryOut_35 : decode b_TK_carryOut 35 = .ok (.iconst 0, 1) := by decide +kernel
theorem d_TK_carryOut_36 : decode b_TK_carryOut 36 = .ok (.putfield 110, 3) := by decide +kernel
theorem d_TK_carryOut_39 : decode b_TK_carryOut 39 = .ok (.goto 86, 3) := by decide +kernel
theorem d_TK_carryOut_42 : decode b_TK_carryOut 42 = .ok (.aload_n 0, 1) := by decide +kernel
theorem d_TK_carryOut_43 : decode b_TK_carryOut 43 = .ok (.getfield 31, 3) := by decide +kernel
theorem d_TK_carryOut_46 : decode b_TK_carryOut 46 = .ok (.iload_n 3, 1) := by decide +kernel
theorem d_TK_carryOut_47 : decode b_TK_carryOut 47 = .ok (.aload_n 0, 1) := by decide +kernel
theorem d_TK_carryOut_48 : decode b_TK_carryOut 48 = .ok (.getfield 42, 3) := by decide +kernel
theorem d_TK_carryOut_51 : decode b_TK_carryOut 51 = .ok (.aload_n 0, 1) := by decide +kernel
theorem d_TK_carryOut_52 : decode b_TK_carryOut 52 = .ok (.getfield 31, 3) := by decide +kernel
theorem d_TK_carryOut_55 : decode b_TK_carryOut 55 = .ok (.aload_n 0, 1) := by decide +kernel
theorem d_TK_carryOut_56 : decode b_TK_carryOut 56 = .ok (.getfield 18, 3) := by decide +kernel
theorem d_TK_carryOut_59 : decode b_TK_carryOut 59 = .ok (.iload_n 1, 1) := by decide +kernel
theorem d_TK_carryOut_60 : decode b_TK_carryOut 60 = .ok (.iaload, 1) := by decide +kernel
theorem d_TK_carryOut_61 : decode b_TK_carryOut 61 = .ok (.aload_n 0, 1) := by decide +kernel
theorem d_TK_carryOut_62 : decode b_TK_carryOut 62 = .ok (.getfield 42, 3) := by decide +kernel
theorem d_TK_carryOut_65 : decode b_TK_carryOut 65 = .ok (.iload_n 3, 1) := by decide +kernel
theorem d_TK_carryOut_66 : decode b_TK_carryOut 66 = .ok (.aload_n 0, 1) := by decide +kernel
theorem d_TK_carryOut_67 : decode b_TK_carryOut 67 = .ok (.getfield 35, 3) := by decide +kernel
theorem d_TK_carryOut_70 : decode b_TK_carryOut 70 = .ok (.invokevirtual 126, 3) := by decide +kernel
theorem d_TK_carryOut_73 : decode b_TK_carryOut 73 = .ok (.ineg, 1) := by decide +kernel
theorem d_TK_carryOut_74 : decode b_TK_carryOut 74 = .ok (.invokevirtual 129, 3) := by decide +kernel
theorem d_TK_carryOut_77 : decode b_TK_carryOut 77 = .ok (.aload_n 0, 1) := by decide +kernel
theorem d_TK_carryOut_78 : decode b_TK_carryOut 78 = .ok (.getfield 31, 3) := by decide +kernel
theorem d_TK_carryOut_81 : decode b_TK_carryOut 81 = .ok (.iload_n 3, 1) := by decide +kernel
theorem d_TK_carryOut_82 : decode b_TK_carryOut 82 = .ok (.aload_n 0, 1) := by decide +kernel
theorem d_TK_carryOut_83 : decode b_TK_carryOut 83 = .ok (.getfield 39, 3) := by decide +kernel
theorem d_TK_carryOut_86 : decode b_TK_carryOut 86 = .ok (.aload_n 0, 1) := by decide +kernel
theorem d_TK_carryOut_87 : decode b_TK_carryOut 87 = .ok (.getfield 22, 3) := by decide +kernel
theorem d_TK_carryOut_90 : decode b_TK_carryOut 90 = .ok (.iload_n 1, 1) := by decide +kernel
theorem d_TK_carryOut_91 : decode b_TK_carryOut 91 = .ok (.iaload, 1) := by decide +kernel
theorem d_TK_carryOut_92 : decode b_TK_carryOut 92 = .ok (.invokevirtual 129, 3) := by decide +kernel
theorem d_TK_carryOut_95 : decode b_TK_carryOut 95 = .ok (.aload_n 2, 1) := by decide +kernel
theorem d_TK_carryOut_96 : decode b_TK_carryOut 96 = .ok (.dup, 1) := by decide +kernel
theorem d_TK_carryOut_97 : decode b_TK_carryOut 97 = .ok (.getfield 110, 3) := by decide +kernel
theorem d_TK_carryOut_100 : decode b_TK_carryOut 100 = .ok (.aload_n 0, 1) := by decide +kernel
theorem d_TK_carryOut_101 : decode b_TK_carryOut 101 = .ok (.getfield 18, 3) := by decide +kernel
theorem d_TK_carryOut_104 : decode b_TK_carryOut 104 = .ok (.iload_n 1, 1) := by decide +kernel
theorem d_TK_carryOut_105 : decode b_TK_carryOut 105 = .ok (.iaload, 1) := by decide +kernel
theorem d_TK_carryOut_106 : decode b_TK_carryOut 106 = .ok (.isub, 1) := by decide +kernel
theorem d_TK_carryOut_107 : decode b_TK_carryOut 107 = .ok (.putfield 110, 3) := by decide +kernel
theorem d_TK_carryOut_110 : decode b_TK_carryOut 110 = .ok (.aload_n 2, 1) := by decide +kernel
theorem d_TK_carryOut_111 : decode b_TK_carryOut 111 = .ok (.dup, 1) := by decide +kernel
theorem d_TK_carryOut_112 : decode b_TK_carryOut 112 = .ok (.getfield 107, 3) := by decide +kernel
theorem d_TK_carryOut_115 : decode b_TK_carryOut 115 = .ok (.aload_n 0, 1) := by decide +kernel
theorem d_TK_carryOut_116 : decode b_TK_carryOut 116 = .ok (.getfield 22, 3) := by decide +kernel
theorem d_TK_carryOut_119 : decode b_TK_carryOut 119 = .ok (.iload_n 1, 1) := by decide +kernel
theorem d_TK_carryOut_120 : decode b_TK_carryOut 120 = .ok (.iaload, 1) := by decide +kernel
theorem d_TK_carryOut_121 : decode b_TK_carryOut 121 = .ok (.isub, 1) := by decide +kernel
theorem d_TK_carryOut_122 : decode b_TK_carryOut 122 = .ok (.putfield 107, 3) := by decide +kernel
theorem d_TK_carryOut_125 : decode b_TK_carryOut 125 = .ok (.iinc 1 1, 3) := by decide +kernel
theorem d_TK_carryOut_128 : decode b_TK_carryOut 128 = .ok (.goto (-126), 3) := by decide +kernel
theorem d_TK_carryOut_131 : decode b_TK_carryOut 131 = .ok (.aload_n 0, 1) := by decide +kernel
theorem d_TK_carryOut_132 : decode b_TK_carryOut 132 = .ok (.getfield 31, 3) := by decide +kernel
theorem d_TK_carryOut_135 : decode b_TK_carryOut 135 = .ok (.invokevirtual 133, 3) := by decide +kernel
theorem d_TK_carryOut_138 : decode b_TK_carryOut 138 = .ok (.return_, 1) := by decide +kernel
def TK_carryOut_b2 (kb2 : Int32 → ST → Option (ST)) (x1 : Int32) (σ : ST) : Option (ST) :=
  if (gI σ 13) ≤ x1 then (bd1 (ST_dropSpentOffers σ) fun σ135 =>
  some σ135)
  else (if x1 < 0 ∨ 12 ≤ x1.toNatClampNeg then none else
  bd1 (gR σ 1 x1.toNatClampNeg) fun q18 =>
  if ¬ (q18 ∈ pL σ ∧ pK σ q18 = 2) then none else
  nmI (pP σ q18 1) fun x3_24 =>
  if x3_24 < 0 ∨ 6 ≤ x3_24.toNatClampNeg then none else
  if (gA σ 5 x3_24.toNatClampNeg) = 0 then (nmS (sP σ q18 5 (0 : Int32)) fun σ36 =>
  kb2 (x1 + 1) σ36)
  else (bd1 (ST_costOf (gA σ 3 x1.toNatClampNeg) (gI σ 12) x3_24 (gI σ 10) σ) fun r70 =>
  bd1 (ST_change x3_24 (gI σ 12) (-r70) σ) fun σ74 =>
  bd1 (ST_change x3_24 (gI σ74 11) (gA σ74 4 x1.toNatClampNeg) σ74) fun σ92 =>
  if ¬ (q18 ∈ pL σ92 ∧ pK σ92 q18 = 2) then none else
  nmS (sP σ92 q18 5 ((pP σ92 q18 5) - (gA σ92 3 x1.toNatClampNeg))) fun σ107 =>
  if ¬ (q18 ∈ pL σ107 ∧ pK σ107 q18 = 2) then none else
  nmS (sP σ107 q18 3 ((pP σ107 q18 3) - (gA σ107 4 x1.toNatClampNeg))) fun σ122 =>
  kb2 (x1 + 1) σ122))
set_option maxRecDepth 100000 in
set_option maxHeartbeats 4000000 in
theorem w_TK_carryOut_b2 {X : JX} (C : JC X l D (ttf cs) eE b_TK_carryOut "TollLedger$Taking" 4 (Cond.code y_TK_carryOut b_TK_carryOut 4 r_TK_carryOut :: BIG) 4 93 0 0) {res : ST} (Rt : JR X (wfm ad cs) 0 0 (PV res) r_TK_carryOut "carryOut") {kb2 : Int32 → ST → Option (ST)} (hk2 : ∀ (x1 : Int32) (σ : ST), kb2 x1 σ = some res → J (wfm ad cs) X 4 0 0 σ 2 [(0, .ref (ad 4)), (1, .int x1)] []) (x1 : Int32) (σ : ST) (hf : TK_carryOut_b2 kb2 x1 σ = some res) : J (wfm ad cs) X 4 0 0 σ 2 [(0, .ref (ad 4)), (1, .int x1)] [] := by
  unfold TK_carryOut_b2 at hf
  refine j_iload_n C 1 rfl rfl d_TK_carryOut_2 ?_
  refine j_aload_n C 0 rfl rfl d_TK_carryOut_3 ?_
  refine g_TK_reached C (List.mem_cons_of_mem _ wd_1_173) d_TK_carryOut_4 ?_
  refine j_icmp_ge C d_TK_carryOut_7 rfl (fun c7 => ?_) (fun c7 => ?_)
  · have hf := o_it c7 hf
    refine j_aload_n C 0 rfl rfl d_TK_carryOut_131 ?_
    refine g_TK_state C (List.mem_cons_of_mem _ wd_1_163) d_TK_carryOut_132 ?_
    obtain ⟨σ135, h135, hf⟩ := o_b1 hf
    refine j_callV (ci := 1) (Cn := "TollLedger$State") (T := T_ST) (N := 6) C [] [] (m_ST_dropSpentOffers _ _ _ _ _ σ h135) (gdV wd_2_202 wd_2_203 wd_2_204 wd_1_2 wc_ST_dropSpentOffers) hy_ST_dropSpentOffers rfl ⟨1, rfl⟩ rfl rfl (by decide) (by decide) (by decide) (by decide) (Nat.le_of_ble_eq_true rfl) d_TK_carryOut_135 (j_kV (σ1 := σ135) ?_)
    have hf := Option.some.inj hf
    subst hf
    exact j_vret C Rt (Nat.zero_le _) (Nat.zero_le _) d_TK_carryOut_138 ⟨rfl, rfl⟩
  · have hf := o_if c7 hf
    refine j_aload_n C 0 rfl rfl d_TK_carryOut_10 ?_
    refine g_TK_book C (List.mem_cons_of_mem _ wd_1_164) d_TK_carryOut_11 ?_
    refine g_BK_row C (List.mem_cons_of_mem _ wd_1_153) d_TK_carryOut_14 ?_
    refine j_iload_n C 1 rfl rfl d_TK_carryOut_17 ?_
    obtain ⟨g18, hf⟩ := o_gn hf
    obtain ⟨q18, hq18, hf⟩ := o_b1 hf
    refine la_row C g18 hq18 d_TK_carryOut_18 ?_
    refine j_astore_n C rfl (by decide) (loc' := [(2, .ref q18), (0, .ref (ad 4)), (1, .int x1)]) rfl d_TK_carryOut_19 ?_
    refine j_aload_n C 0 rfl rfl d_TK_carryOut_20 ?_
    obtain ⟨g21, hf⟩ := o_gn hf
    refine gp_Offer_owner C (Decidable.not_not.mp g21) (List.mem_cons_of_mem _ wd_3_16) d_TK_carryOut_21 ?_
    obtain ⟨x3_24, ex3_24, hf⟩ := o_nmI hf
    refine j_topI ex3_24 ?_
    refine j_istore_n C rfl (by decide) (loc' := [(3, .int x3_24), (2, .ref q18), (0, .ref (ad 4)), (1, .int x1)]) rfl d_TK_carryOut_24 ?_
    refine j_aload_n C 2 rfl rfl d_TK_carryOut_25 ?_
    refine g_TK_funds C (List.mem_cons_of_mem _ wd_1_168) d_TK_carryOut_26 ?_
    refine j_iload_n C 0 rfl rfl d_TK_carryOut_29 ?_
    obtain ⟨g30, hf⟩ := o_gn hf
    refine la_fun C g30 d_TK_carryOut_30 ?_
    refine j_if_ne C d_TK_carryOut_31 rfl (fun c31 => ?_) (fun c31 => ?_)
    · have hf := o_if c31 hf
      refine j_aload_n C 2 rfl rfl d_TK_carryOut_42 ?_
      refine g_TK_state C (List.mem_cons_of_mem _ wd_1_163) d_TK_carryOut_43 ?_
      refine j_iload_n C 0 rfl rfl d_TK_carryOut_46 ?_
      refine j_aload_n C 2 rfl rfl d_TK_carryOut_47 ?_
      refine g_TK_got C (List.mem_cons_of_mem _ wd_1_172) d_TK_carryOut_48 ?_
      refine j_aload_n C 2 rfl rfl d_TK_carryOut_51 ?_
      refine g_TK_state C (List.mem_cons_of_mem _ wd_1_163) d_TK_carryOut_52 ?_
      refine j_aload_n C 2 rfl rfl d_TK_carryOut_55 ?_
      refine g_TK_amounts C (List.mem_cons_of_mem _ wd_1_166) d_TK_carryOut_56 ?_
      refine j_iload_n C 3 rfl rfl d_TK_carryOut_59 ?_
      refine la_amo C g18 d_TK_carryOut_60 ?_
      refine j_aload_n C 2 rfl rfl d_TK_carryOut_61 ?_
      refine g_TK_got C (List.mem_cons_of_mem _ wd_1_172) d_TK_carryOut_62 ?_
      refine j_iload_n C 0 rfl rfl d_TK_carryOut_65 ?_
      refine j_aload_n C 2 rfl rfl d_TK_carryOut_66 ?_
      refine g_TK_taker C (List.mem_cons_of_mem _ wd_1_170) d_TK_carryOut_67 ?_
      obtain ⟨r70, h70, hf⟩ := o_b1 hf
      refine j_callV (ci := 1) (Cn := "TollLedger$State") (T := T_ST) (N := 6) C [.int (gA σ 3 x1.toNatClampNeg), .int (gI σ 12), .int x3_24, .int (gI σ 10)] [.int (gI σ 12), .int x3_24, .ref (ad 1)] (m_ST_costOf _ _ _ _ _ (gA σ 3 x1.toNatClampNeg) (gI σ 12) x3_24 (gI σ 10) σ h70) (gdV wd_2_196 wd_2_159 wd_2_160 wd_1_2 wc_ST_costOf) hy_ST_costOf rfl ⟨1, rfl⟩ rfl rfl (by decide) (by decide) (by decide) (by decide) (Nat.le_of_ble_eq_true rfl) d_TK_carryOut_70 (j_kI (r := r70) (σ1 := σ) ?_)
      refine j_ineg C d_TK_carryOut_73 ?_
      obtain ⟨σ74, h74, hf⟩ := o_b1 hf
      refine j_callV (ci := 1) (Cn := "TollLedger$State") (T := T_ST) (N := 6) C [.int x3_24, .int (gI σ 12), .int (-r70)] [] (m_ST_change _ _ _ _ _ x3_24 (gI σ 12) (-r70) σ h74) (gdV wd_2_201 wd_2_86 wd_2_87 wd_1_2 wc_ST_change) hy_ST_change rfl ⟨1, rfl⟩ rfl rfl (by decide) (by decide) (by decide) (by decide) (Nat.le_of_ble_eq_true rfl) d_TK_carryOut_74 (j_kV (σ1 := σ74) ?_)
      refine j_aload_n C 2 rfl rfl d_TK_carryOut_77 ?_
      refine g_TK_state C (List.mem_cons_of_mem _ wd_1_163) d_TK_carryOut_78 ?_
      refine j_iload_n C 0 rfl rfl d_TK_carryOut_81 ?_
      refine j_aload_n C 2 rfl rfl d_TK_carryOut_82 ?_
      refine g_TK_paid C (List.mem_cons_of_mem _ wd_1_171) d_TK_carryOut_83 ?_
      refine j_aload_n C 2 rfl rfl d_TK_carryOut_86 ?_
      refine g_TK_prices C (List.mem_cons_of_mem _ wd_1_167) d_TK_carryOut_87 ?_
      refine j_iload_n C 3 rfl rfl d_TK_carryOut_90 ?_
      refine la_pri C g18 d_TK_carryOut_91 ?_
      obtain ⟨σ92, h92, hf⟩ := o_b1 hf
      refine j_callV (ci := 1) (Cn := "TollLedger$State") (T := T_ST) (N := 6) C [.int x3_24, .int (gI σ74 11), .int (gA σ74 4 x1.toNatClampNeg)] [] (m_ST_change _ _ _ _ _ x3_24 (gI σ74 11) (gA σ74 4 x1.toNatClampNeg) σ74 h92) (gdV wd_2_201 wd_2_86 wd_2_87 wd_1_2 wc_ST_change) hy_ST_change rfl ⟨1, rfl⟩ rfl rfl (by decide) (by decide) (by decide) (by decide) (Nat.le_of_ble_eq_true rfl) d_TK_carryOut_92 (j_kV (σ1 := σ92) ?_)
      refine j_aload_n C 1 rfl rfl d_TK_carryOut_95 ?_
      refine j_dup C rfl d_TK_carryOut_96 ?_
      obtain ⟨g97, hf⟩ := o_gn hf
      refine gp_Offer_g C (Decidable.not_not.mp g97) (List.mem_cons_of_mem _ wd_3_30) d_TK_carryOut_97 ?_
      refine j_aload_n C 2 rfl rfl d_TK_carryOut_100 ?_
      refine g_TK_amounts C (List.mem_cons_of_mem _ wd_1_166) d_TK_carryOut_101 ?_
      refine j_iload_n C 3 rfl rfl d_TK_carryOut_104 ?_
      refine la_amo C g18 d_TK_carryOut_105 ?_
      refine j_isub C d_TK_carryOut_106 ?_
      obtain ⟨σ107, eσ107, hf⟩ := o_nmS hf
      refine pp_Offer_g C (Decidable.not_not.mp g97) eσ107 (List.mem_cons_of_mem _ wd_3_30) d_TK_carryOut_107 ?_
      refine j_aload_n C 1 rfl rfl d_TK_carryOut_110 ?_
      refine j_dup C rfl d_TK_carryOut_111 ?_
      obtain ⟨g112, hf⟩ := o_gn hf
      refine gp_Offer_w C (Decidable.not_not.mp g112) (List.mem_cons_of_mem _ wd_3_23) d_TK_carryOut_112 ?_
      refine j_aload_n C 2 rfl rfl d_TK_carryOut_115 ?_
      refine g_TK_prices C (List.mem_cons_of_mem _ wd_1_167) d_TK_carryOut_116 ?_
      refine j_iload_n C 3 rfl rfl d_TK_carryOut_119 ?_
      refine la_pri C g18 d_TK_carryOut_120 ?_
      refine j_isub C d_TK_carryOut_121 ?_
      obtain ⟨σ122, eσ122, hf⟩ := o_nmS hf
      refine pp_Offer_w C (Decidable.not_not.mp g112) eσ122 (List.mem_cons_of_mem _ wd_3_23) d_TK_carryOut_122 ?_
      refine j_iinc C 3 rfl (v := (x1 + 1)) (inc_p1 _) (by decide) (loc' := [(1, .int (x1 + 1)), (3, .int x3_24), (2, .ref q18), (0, .ref (ad 4))]) rfl d_TK_carryOut_125 ?_
      refine j_goto C d_TK_carryOut_128 rfl ?_
      refine j_sub [3, 0] rfl ?_
      exact hk2 (x1 + 1) σ122 hf
    · have hf := o_it c31 hf
      refine j_aload_n C 1 rfl rfl d_TK_carryOut_34 ?_
      refine j_iconst C (v := 0) (by decide) d_TK_carryOut_35 ?_
      obtain ⟨σ36, eσ36, hf⟩ := o_nmS hf
      refine pp_Offer_g C (Decidable.not_not.mp g21) eσ36 (List.mem_cons_of_mem _ wd_3_30) d_TK_carryOut_36 ?_
      refine j_goto C d_TK_carryOut_39 rfl ?_
      refine j_iinc C 3 rfl (v := (x1 + 1)) (inc_p1 _) (by decide) (loc' := [(1, .int (x1 + 1)), (3, .int x3_24), (2, .ref q18), (0, .ref (ad 4))]) rfl d_TK_carryOut_125 ?_
      refine j_goto C d_TK_carryOut_128 rfl ?_
      refine j_sub [3, 0] rfl ?_
      exact hk2 (x1 + 1) σ36 hf
def TK_carryOut_L2 : Nat → Int32 → ST → Option (ST)
  | 0, _, _ => none
  | N + 1, x1, σ => TK_carryOut_b2 (fun x1 σ => TK_carryOut_L2 N x1 σ) x1 σ
theorem w_TK_carryOut_L2 {X : JX} (C : JC X l D (ttf cs) eE b_TK_carryOut "TollLedger$Taking" 4 (Cond.code y_TK_carryOut b_TK_carryOut 4 r_TK_carryOut :: BIG) 4 93 0 0) {res : ST} (Rt : JR X (wfm ad cs) 0 0 (PV res) r_TK_carryOut "carryOut")  (N : Nat) (x1 : Int32) (σ : ST) (hf : TK_carryOut_L2 N x1 σ = some res) : J (wfm ad cs) X 4 0 0 σ 2 [(0, .ref (ad 4)), (1, .int x1)] [] := by
  induction N generalizing x1 σ with
  | zero => exact nomatch hf
  | succ N ih => exact w_TK_carryOut_b2 C Rt  (fun x1 σ h => ih x1 σ h) x1 σ hf
def TK_carryOut (σ : ST) : Option (ST) :=
  TK_carryOut_L2 FU (0 : Int32) σ
set_option maxRecDepth 100000 in
set_option maxHeartbeats 4000000 in
theorem m_TK_carryOut (l : Launch) (D : va_G) (ad : Nat → Nat) (cs : Nat → ClassId) (eE : Nat × Nat) (σ : ST) {res : ST} (hf : TK_carryOut σ = some res) : MS l y_TK_carryOut (Cond.code y_TK_carryOut b_TK_carryOut 4 r_TK_carryOut :: BIG) 4 93 0 0 (wfm ad cs) D (ttf cs) eE [.ref (ad 4)] σ (PV res) := by
  refine MS.of (cc := b_TK_carryOut) (maxL := 4) (ret := r_TK_carryOut) (by decide) rfl (Nat.le_of_ble_eq_true rfl) (loc := [(0, .ref (ad 4))]) rfl (fun X C Rt => ?_)
  unfold TK_carryOut at hf
  refine j_iconst C (v := 0) (by decide) d_TK_carryOut_0 ?_
  refine j_istore_n C rfl (by decide) (loc' := [(1, .int (0 : Int32)), (0, .ref (ad 4))]) rfl d_TK_carryOut_1 ?_
  refine j_sub [1, 0] rfl ?_
  exact w_TK_carryOut_L2 C Rt  FU (0 : Int32) σ hf
theorem d_TK_countUnfunded_0 : decode b_TK_countUnfunded 0 = .ok (.iconst 0, 1) := by decide +kernel
theorem d_TK_countUnfunded_1 : decode b_TK_countUnfunded 1 = .ok (.istore_n 1, 1) := by decide +kernel
theorem d_TK_countUnfunded_2 : decode b_TK_countUnfunded 2 = .ok (.iconst 0, 1) := by decide +kernel
theorem d_TK_countUnfunded_3 : decode b_TK_countUnfunded 3 = .ok (.istore_n 2, 1) := by decide +kernel
theorem d_TK_countUnfunded_4 : decode b_TK_countUnfunded 4 = .ok (.iload_n 2, 1) := by decide +kernel
theorem d_TK_countUnfunded_5 : decode b_TK_countUnfunded 5 = .ok (.aload_n 0, 1) := by decide +kernel
theorem d_TK_countUnfunded_6 : decode b_TK_countUnfunded 6 = .ok (.getfield 119, 3) := by decide +kernel
theorem d_TK_countUnfunded_9 : decode b_TK_countUnfunded 9 = .ok (.if_icmp .ge 32, 3) := by decide +kernel
theorem d_TK_countUnfunded_12 : decode b_TK_countUnfunded 12 = .ok (.aload_n 0, 1) := by decide +kernel
theorem d_TK_countUnfunded_13 : decode b_TK_countUnfunded 13 = .ok (.getfield 25, 3) := by decide +kernel
theorem d_TK_countUnfunded_16 : decode b_TK_countUnfunded 16 = .ok (.aload_n 0, 1) := by decide +kernel
theorem d_TK_countUnfunded_17 : decode b_TK_countUnfunded 17 = .ok (.getfield 12, 3) := by decide +kernel
theorem d_TK_countUnfunded_20 : decode b_TK_countUnfunded 20 = .ok (.getfield 72, 3) := by decide +kernel
theorem d_TK_countUnfunded_23 : decode b_TK_countUnfunded 23 = .ok (.iload_n 2, 1) := by decide +kernel
theorem d_TK_countUnfunded_24 : decode b_TK_countUnfunded 24 = .ok (.aaload, 1) := by decide +kernel
theorem d_TK_countUnfunded_25 : decode b_TK_countUnfunded 25 = .ok (.getfield 83, 3) := by decide +kernel
theorem d_TK_countUnfunded_28 : decode b_TK_countUnfunded 28 = .ok (.iaload, 1) := by decide +kernel
theorem d_TK_countUnfunded_29 : decode b_TK_countUnfunded 29 = .ok (.ifCond .ne 6, 3) := by decide +kernel
theorem d_TK_countUnfunded_32 : decode b_TK_countUnfunded 32 = .ok (.iinc 1 1, 3) := by decide +kernel
theorem d_TK_countUnfunded_35 : decode b_TK_countUnfunded 35 = .ok (.iinc 2 1, 3) := by decide +kernel
theorem d_TK_countUnfunded_38 : decode b_TK_countUnfunded 38 = .ok (.goto (-34), 3) := by decide +kernel
theorem d_TK_countUnfunded_41 : decode b_TK_countUnfunded 41 = .ok (.iload_n 1, 1) := by decide +kernel
theorem d_TK_countUnfunded_42 : decode b_TK_countUnfunded 42 = .ok (.ireturn, 1) := by decide +kernel
def TK_countUnfunded_b4 (kb4 : Int32 → Int32 → ST → Option (Int32)) (x1 : Int32) (x2 : Int32) (σ : ST) : Option (Int32) :=
  if (gI σ 13) ≤ x2 then (some x1)
  else (if x2 < 0 ∨ 12 ≤ x2.toNatClampNeg then none else
  bd1 (gR σ 1 x2.toNatClampNeg) fun q24 =>
  if ¬ (q24 ∈ pL σ ∧ pK σ q24 = 2) then none else
  if (pP σ q24 1) < 0 ∨ 6 ≤ (pP σ q24 1).toNatClampNeg then none else
  if (gA σ 5 (pP σ q24 1).toNatClampNeg) = 0 then (kb4 (x1 + 1) (x2 + 1) σ)
  else (kb4 x1 (x2 + 1) σ))
set_option maxRecDepth 100000 in
set_option maxHeartbeats 4000000 in
theorem w_TK_countUnfunded_b4 {X : JX} (C : JC X l D (ttf cs) eE b_TK_countUnfunded "TollLedger$Taking" 3 (Cond.code y_TK_countUnfunded b_TK_countUnfunded 3 r_TK_countUnfunded :: BIG) 0 0 0 0) {σ : ST} {res : Int32} (Rt : JR X (wfm ad cs) 0 0 (PI res σ) r_TK_countUnfunded "countUnfunded") {kb4 : Int32 → Int32 → ST → Option (Int32)} (hk4 : ∀ (x1 : Int32) (x2 : Int32), kb4 x1 x2 σ = some res → J (wfm ad cs) X 3 0 0 σ 4 [(0, .ref (ad 4)), (1, .int x1), (2, .int x2)] []) (x1 : Int32) (x2 : Int32) (hf : TK_countUnfunded_b4 kb4 x1 x2 σ = some res) : J (wfm ad cs) X 3 0 0 σ 4 [(0, .ref (ad 4)), (1, .int x1), (2, .int x2)] [] := by
  unfold TK_countUnfunded_b4 at hf
  refine j_iload_n C 2 rfl rfl d_TK_countUnfunded_4 ?_
  refine j_aload_n C 0 rfl rfl d_TK_countUnfunded_5 ?_
  refine g_TK_reached C (List.mem_cons_of_mem _ wd_1_173) d_TK_countUnfunded_6 ?_
  refine j_icmp_ge C d_TK_countUnfunded_9 rfl (fun c9 => ?_) (fun c9 => ?_)
  · have hf := o_it c9 hf
    refine j_iload_n C 1 rfl rfl d_TK_countUnfunded_41 ?_
    have hf := Option.some.inj hf
    subst hf
    exact j_iret C Rt (Nat.zero_le _) (Nat.zero_le _) d_TK_countUnfunded_42 ⟨rfl, rfl⟩
  · have hf := o_if c9 hf
    refine j_aload_n C 0 rfl rfl d_TK_countUnfunded_12 ?_
    refine g_TK_funds C (List.mem_cons_of_mem _ wd_1_168) d_TK_countUnfunded_13 ?_
    refine j_aload_n C 0 rfl rfl d_TK_countUnfunded_16 ?_
    refine g_TK_book C (List.mem_cons_of_mem _ wd_1_164) d_TK_countUnfunded_17 ?_
    refine g_BK_row C (List.mem_cons_of_mem _ wd_1_153) d_TK_countUnfunded_20 ?_
    refine j_iload_n C 2 rfl rfl d_TK_countUnfunded_23 ?_
    obtain ⟨g24, hf⟩ := o_gn hf
    obtain ⟨q24, hq24, hf⟩ := o_b1 hf
    refine la_row C g24 hq24 d_TK_countUnfunded_24 ?_
    obtain ⟨g25, hf⟩ := o_gn hf
    refine gp_Offer_owner C (Decidable.not_not.mp g25) (List.mem_cons_of_mem _ wd_3_16) d_TK_countUnfunded_25 ?_
    obtain ⟨g28, hf⟩ := o_gn hf
    refine la_fun C g28 d_TK_countUnfunded_28 ?_
    refine j_if_ne C d_TK_countUnfunded_29 rfl (fun c29 => ?_) (fun c29 => ?_)
    · have hf := o_if c29 hf
      refine j_iinc C 2 rfl (v := (x2 + 1)) (inc_p1 _) (by decide) (loc' := [(2, .int (x2 + 1)), (0, .ref (ad 4)), (1, .int x1)]) rfl d_TK_countUnfunded_35 ?_
      refine j_goto C d_TK_countUnfunded_38 rfl ?_
      refine j_sub [1, 2, 0] rfl ?_
      exact hk4 x1 (x2 + 1) hf
    · have hf := o_it c29 hf
      refine j_iinc C 1 rfl (v := (x1 + 1)) (inc_p1 _) (by decide) (loc' := [(1, .int (x1 + 1)), (0, .ref (ad 4)), (2, .int x2)]) rfl d_TK_countUnfunded_32 ?_
      refine j_iinc C 2 rfl (v := (x2 + 1)) (inc_p1 _) (by decide) (loc' := [(2, .int (x2 + 1)), (1, .int (x1 + 1)), (0, .ref (ad 4))]) rfl d_TK_countUnfunded_35 ?_
      refine j_goto C d_TK_countUnfunded_38 rfl ?_
      refine j_sub [2, 1, 0] rfl ?_
      exact hk4 (x1 + 1) (x2 + 1) hf
def TK_countUnfunded_L4 : Nat → Int32 → Int32 → ST → Option (Int32)
  | 0, _, _, _ => none
  | N + 1, x1, x2, σ => TK_countUnfunded_b4 (fun x1 x2 σ => TK_countUnfunded_L4 N x1 x2 σ) x1 x2 σ
theorem w_TK_countUnfunded_L4 {X : JX} (C : JC X l D (ttf cs) eE b_TK_countUnfunded "TollLedger$Taking" 3 (Cond.code y_TK_countUnfunded b_TK_countUnfunded 3 r_TK_countUnfunded :: BIG) 0 0 0 0) {σ : ST} {res : Int32} (Rt : JR X (wfm ad cs) 0 0 (PI res σ) r_TK_countUnfunded "countUnfunded")  (N : Nat) (x1 : Int32) (x2 : Int32) (hf : TK_countUnfunded_L4 N x1 x2 σ = some res) : J (wfm ad cs) X 3 0 0 σ 4 [(0, .ref (ad 4)), (1, .int x1), (2, .int x2)] [] := by
  induction N generalizing x1 x2 with
  | zero => exact nomatch hf
  | succ N ih => exact w_TK_countUnfunded_b4 C Rt  (fun x1 x2 h => ih x1 x2 h) x1 x2 hf
def TK_countUnfunded (σ : ST) : Option (Int32) :=
  TK_countUnfunded_L4 FU (0 : Int32) (0 : Int32) σ
set_option maxRecDepth 100000 in
set_option maxHeartbeats 4000000 in
theorem m_TK_countUnfunded (l : Launch) (D : va_G) (ad : Nat → Nat) (cs : Nat → ClassId) (eE : Nat × Nat) (σ : ST) {res : Int32} (hf : TK_countUnfunded σ = some res) : MS l y_TK_countUnfunded (Cond.code y_TK_countUnfunded b_TK_countUnfunded 3 r_TK_countUnfunded :: BIG) 0 0 0 0 (wfm ad cs) D (ttf cs) eE [.ref (ad 4)] σ (PI res σ) := by
  refine MS.of (cc := b_TK_countUnfunded) (maxL := 3) (ret := r_TK_countUnfunded) (by decide) rfl (Nat.le_of_ble_eq_true rfl) (loc := [(0, .ref (ad 4))]) rfl (fun X C Rt => ?_)
  unfold TK_countUnfunded at hf
  refine j_iconst C (v := 0) (by decide) d_TK_countUnfunded_0 ?_
  refine j_istore_n C rfl (by decide) (loc' := [(1, .int (0 : Int32)), (0, .ref (ad 4))]) rfl d_TK_countUnfunded_1 ?_
  refine j_iconst C (v := 0) (by decide) d_TK_countUnfunded_2 ?_
  refine j_istore_n C rfl (by decide) (loc' := [(2, .int (0 : Int32)), (1, .int (0 : Int32)), (0, .ref (ad 4))]) rfl d_TK_countUnfunded_3 ?_
  refine j_sub [2, 1, 0] rfl ?_
  exact w_TK_countUnfunded_L4 C Rt  FU (0 : Int32) (0 : Int32) hf
theorem d_TK_goThrough_0 : decode b_TK_goThrough 0 = .ok (.aload_n 0, 1) := by decide +kernel
theorem d_TK_goThrough_1 : decode b_TK_goThrough 1 = .ok (.getfield 12, 3) := by decide +kernel
theorem d_TK_goThrough_4 : decode b_TK_goThrough 4 = .ok (.getfield 72, 3) := by decide +kernel
theorem d_TK_goThrough_7 : decode b_TK_goThrough 7 = .ok (.iload_n 1, 1) := by decide +kernel
theorem d_TK_goThrough_8 : decode b_TK_goThrough 8 = .ok (.aaload, 1) := by decide +kernel
theorem d_TK_goThrough_9 : decode b_TK_goThrough 9 = .ok (.astore_n 3, 1) := by decide +kernel
theorem d_TK_goThrough_10 : decode b_TK_goThrough 10 = .ok (.aload_n 3, 1) := by decide +kernel
theorem d_TK_goThrough_11 : decode b_TK_goThrough 11 = .ok (.getfield 83, 3) := by decide +kernel
theorem d_TK_goThrough_14 : decode b_TK_goThrough 14 = .ok (.istore 4, 2) := by decide +kernel
theorem d_TK_goThrough_16 : decode b_TK_goThrough 16 = .ok (.aload_n 0, 1) := by decide +kernel
theorem d_TK_goThrough_17 : decode b_TK_goThrough 17 = .ok (.getfield 31, 3) := by decide +kernel
theorem d_TK_goThrough_20 : decode b_TK_goThrough 20 = .ok (.aload_n 0, 1) := by decide +kernel
theorem d_TK_goThrough_21 : decode b_TK_goThrough 21 = .ok (.getfield 28, 3) := by decide +kernel
theorem d_TK_goThrough_24 : decode b_TK_goThrough 24 = .ok (.iload 4, 2) := by decide +kernel
theorem d_TK_goThrough_26 : decode b_TK_goThrough 26 = .ok (.iaload, 1) := by decide +kernel
theorem d_TK_goThrough_27 : decode b_TK_goThrough 27 = .ok (.aload_n 0, 1) := by decide +kernel
theorem d_TK_goThrough_28 : decode b_TK_goThrough 28 = .ok (.getfield 42, 3) := by decide +kernel
theorem d_TK_goThrough_31 : decode b_TK_goThrough 31 = .ok (.iload 4, 2) := by decide +kernel
theorem d_TK_goThrough_33 : decode b_TK_goThrough 33 = .ok (.aload_n 0, 1) := by decide +kernel
theorem d_TK_goThrough_34 : decode b_TK_goThrough 34 = .ok (.getfield 35, 3) := by decide +kernel
theorem d_TK_goThrough_37 : decode b_TK_goThrough 37 = .ok (.invokevirtual 88, 3) := by decide +kernel
theorem d_TK_goThrough_40 : decode b_TK_goThrough 40 = .ok (.istore 5, 2) := by decide +kernel
theorem d_TK_goThrough_42 : decode b_TK_goThrough 42 = .ok (.iload_n 2, 1) := by decide +kernel
theorem d_TK_goThrough_43 : decode b_TK_goThrough 43 = .ok (.aload_n 3, 1) := by decide +kernel
theorem d_TK_goThrough_44 : decode b_TK_goThrough 44 = .ok (.getfield 110, 3) := by decide +kernel
theorem d_TK_goThrough_47 : decode b_TK_goThrough 47 = .ok (.iload 5, 2) := by decide +kernel
theorem d_TK_goThrough_49 : decode b_TK_goThrough 49 = .ok (.invokestatic 95, 3) := by decide +kernel
theorem d_TK_goThrough_52 : decode b_TK_goThrough 52 = .ok (.invokestatic 95, 3) := by decide +kernel
theorem d_TK_goThrough_55 : decode b_TK_goThrough 55 = .ok (.istore 6, 2) := by decide +kernel
theorem d_TK_goThrough_57 : decode b_TK_goThrough 57 = .ok (.aload_n 0, 1) := by decide +kernel
theorem d_TK_goThrough_58 : decode b_TK_goThrough 58 = .ok (.getfield 18, 3) := by decide +kernel
theorem d_TK_goThrough_61 : decode b_TK_goThrough 61 = .ok (.iload_n 1, 1) := by decide +kernel
theorem d_TK_goThrough_62 : decode b_TK_goThrough 62 = .ok (.iload 6, 2) := by decide +kernel
theorem d_TK_goThrough_64 : decode b_TK_goThrough 64 = .ok (.iastore, 1) := by decide +kernel
theorem d_TK_goThrough_65 : decode b_TK_goThrough 65 = .ok (.aload_n 0, 1) := by decide +kernel
theorem d_TK_goThrough_66 : decode b_TK_goThrough 66 = .ok (.getfield 22, 3) := by decide +kernel
theorem d_TK_goThrough_69 : decode b_TK_goThrough 69 = .ok (.iload_n 1, 1) := by decide +kernel
theorem d_TK_goThrough_70 : decode b_TK_goThrough 70 = .ok (.aload_n 3, 1) := by decide +kernel
theorem d_TK_goThrough_71 : decode b_TK_goThrough 71 = .ok (.iload 6, 2) := by decide +kernel
theorem d_TK_goThrough_73 : decode b_TK_goThrough 73 = .ok (.invokevirtual 122, 3) := by decide +kernel
theorem d_TK_goThrough_76 : decode b_TK_goThrough 76 = .ok (.iastore, 1) := by decide +kernel
theorem d_TK_goThrough_77 : decode b_TK_goThrough 77 = .ok (.aload_n 0, 1) := by decide +kernel
theorem d_TK_goThrough_78 : decode b_TK_goThrough 78 = .ok (.getfield 28, 3) := by decide +kernel
theorem d_TK_goThrough_81 : decode b_TK_goThrough 81 = .ok (.iload 4, 2) := by decide +kernel
theorem d_TK_goThrough_83 : decode b_TK_goThrough 83 = .ok (.dup2, 1) := by decide +kernel
theorem d_TK_goThrough_84 : decode b_TK_goThrough 84 = .ok (.iaload, 1) := by decide +kernel
theorem d_TK_goThrough_85 : decode b_TK_goThrough 85 = .ok (.aload_n 0, 1) := by decide +kernel
theorem d_TK_goThrough_86 : decode b_TK_goThrough 86 = .ok (.getfield 31, 3) := by decide +kernel
theorem d_TK_goThrough_89 : decode b_TK_goThrough 89 = .ok (.iload 6, 2) := by decide +kernel
theorem d_TK_goThrough_91 : decode b_TK_goThrough 91 = .ok (.aload_n 0, 1) := by decide +kernel
theorem d_TK_goThrough_92 : decode b_TK_goThrough 92 = .ok (.getfield 42, 3) := by decide +kernel
theorem d_TK_goThrough_95 : decode b_TK_goThrough 95 = .ok (.iload 4, 2) := by decide +kernel
theorem d_TK_goThrough_97 : decode b_TK_goThrough 97 = .ok (.aload_n 0, 1) := by decide +kernel
theorem d_TK_goThrough_98 : decode b_TK_goThrough 98 = .ok (.getfield 35, 3) := by decide +kernel
theorem d_TK_goThrough_101 : decode b_TK_goThrough 101 = .ok (.invokevirtual 126, 3) := by decide +kernel
theorem d_TK_goThrough_104 : decode b_TK_goThrough 104 = .ok (.isub, 1) := by decide +kernel
theorem d_TK_goThrough_105 : decode b_TK_goThrough 105 = .ok (.iastore, 1) := by decide +kernel
theorem d_TK_goThrough_106 : decode b_TK_goThrough 106 = .ok (.aload_n 0, 1) := by decide +kernel
theorem d_TK_goThrough_107 : decode b_TK_goThrough 107 = .ok (.dup, 1) := by decide +kernel
theorem d_TK_goThrough_108 : decode b_TK_goThrough 108 = .ok (.getfield 65, 3) := by decide +kernel
theorem d_TK_goThrough_111 : decode b_TK_goThrough 111 = .ok (.iload 6, 2) := by decide +kernel
theorem d_TK_goThrough_113 : decode b_TK_goThrough 113 = .ok (.iadd, 1) := by decide +kernel
theorem d_TK_goThrough_114 : decode b_TK_goThrough 114 = .ok (.putfield 65, 3) := by decide +kernel
theorem d_TK_goThrough_117 : decode b_TK_goThrough 117 = .ok (.aload_n 0, 1) := by decide +kernel
theorem d_TK_goThrough_118 : decode b_TK_goThrough 118 = .ok (.dup, 1) := by decide +kernel
theorem d_TK_goThrough_119 : decode b_TK_goThrough 119 = .ok (.getfield 92, 3) := by decide +kernel
theorem d_TK_goThrough_122 : decode b_TK_goThrough 122 = .ok (.aload_n 0, 1) := by decide +kernel
theorem d_TK_goThrough_123 : decode b_TK_goThrough 123 = .ok (.getfield 22, 3) := by decide +kernel
theorem d_TK_goThrough_126 : decode b_TK_goThrough 126 = .ok (.iload_n 1, 1) := by decide +kernel
theorem d_TK_goThrough_127 : decode b_TK_goThrough 127 = .ok (.iaload, 1) := by decide +kernel
theorem d_TK_goThrough_128 : decode b_TK_goThrough 128 = .ok (.iadd, 1) := by decide +kernel
theorem d_TK_goThrough_129 : decode b_TK_goThrough 129 = .ok (.putfield 92, 3) := by decide +kernel
theorem d_TK_goThrough_132 : decode b_TK_goThrough 132 = .ok (.aload_n 0, 1) := by decide +kernel
theorem d_TK_goThrough_133 : decode b_TK_goThrough 133 = .ok (.dup, 1) := by decide +kernel
theorem d_TK_goThrough_134 : decode b_TK_goThrough 134 = .ok (.getfield 80, 3) := by decide +kernel
theorem d_TK_goThrough_137 : decode b_TK_goThrough 137 = .ok (.aload_n 0, 1) := by decide +kernel
theorem d_TK_goThrough_138 : decode b_TK_goThrough 138 = .ok (.getfield 31, 3) := by decide +kernel
theorem d_TK_goThrough_141 : decode b_TK_goThrough 141 = .ok (.aload_n 0, 1) := by decide +kernel
theorem d_TK_goThrough_142 : decode b_TK_goThrough 142 = .ok (.getfield 22, 3) := by decide +kernel
theorem d_TK_goThrough_145 : decode b_TK_goThrough 145 = .ok (.iload_n 1, 1) := by decide +kernel
theorem d_TK_goThrough_146 : decode b_TK_goThrough 146 = .ok (.iaload, 1) := by decide +kernel
theorem d_TK_goThrough_147 : decode b_TK_goThrough 147 = .ok (.aload_n 0, 1) := by decide +kernel
theorem d_TK_goThrough_148 : decode b_TK_goThrough 148 = .ok (.getfield 39, 3) := by decide +kernel
theorem d_TK_goThrough_151 : decode b_TK_goThrough 151 = .ok (.aload_n 0, 1) := by decide +kernel
theorem d_TK_goThrough_152 : decode b_TK_goThrough 152 = .ok (.getfield 35, 3) := by decide +kernel
theorem d_TK_goThrough_155 : decode b_TK_goThrough 155 = .ok (.iload 4, 2) := by decide +kernel
theorem d_TK_goThrough_157 : decode b_TK_goThrough 157 = .ok (.invokevirtual 126, 3) := by decide +kernel
theorem d_TK_goThrough_160 : decode b_TK_goThrough 160 = .ok (.iadd, 1) := by decide +kernel
theorem d_TK_goThrough_161 : decode b_TK_goThrough 161 = .ok (.putfield 80, 3) := by decide +kernel
theorem d_TK_goThrough_164 : decode b_TK_goThrough 164 = .ok (.aload_n 0, 1) := by decide +kernel
theorem d_TK_goThrough_165 : decode b_TK_goThrough 165 = .ok (.iload_n 1, 1) := by decide +kernel
theorem d_TK_goThrough_166 : decode b_TK_goThrough 166 = .ok (.iconst 1, 1) := by decide +kernel
theorem d_TK_goThrough_167 : decode b_TK_goThrough 167 = .ok (.iadd, 1) := by decide +kernel
theorem d_TK_goThrough_168 : decode b_TK_goThrough 168 = .ok (.putfield 119, 3) := by decide +kernel
theorem d_TK_goThrough_171 : decode b_TK_goThrough 171 = .ok (.return_, 1) := by decide +kernel
def TK_goThrough (x1 : Int32) (x2 : Int32) (σ : ST) : Option (ST) :=
  if x1 < 0 ∨ 12 ≤ x1.toNatClampNeg then none else
  bd1 (gR σ 1 x1.toNatClampNeg) fun q8 =>
  if ¬ (q8 ∈ pL σ ∧ pK σ q8 = 2) then none else
  nmI (pP σ q8 1) fun x4_14 =>
  if x4_14 < 0 ∨ 6 ≤ x4_14.toNatClampNeg then none else
  bd1 (ST_mostMovable (gA σ 6 x4_14.toNatClampNeg) (gI σ 12) x4_14 (gI σ 10) σ) fun r37 =>
  nmI (imin x2 (imin (pP σ q8 5) r37)) fun x6_55 =>
  nmS (sA σ 3 x1.toNatClampNeg x6_55) fun σ64 =>
  if ¬ (q8 ∈ pL σ64 ∧ pK σ64 q8 = 2) then none else
  bd1 (OF_priceOf q8 x6_55 σ64) fun r73 =>
  nmS (sA σ64 4 x1.toNatClampNeg r73) fun σ76 =>
  bd1 (ST_costOf x6_55 (gI σ76 12) x4_14 (gI σ76 10) σ76) fun r101 =>
  nmS (sA σ76 6 x4_14.toNatClampNeg ((gA σ76 6 x4_14.toNatClampNeg) - r101)) fun σ105 =>
  nmS (sI σ105 14 ((gI σ105 14) + x6_55)) fun σ114 =>
  nmS (sI σ114 15 ((gI σ114 15) + (gA σ114 4 x1.toNatClampNeg))) fun σ129 =>
  bd1 (ST_costOf (gA σ129 4 x1.toNatClampNeg) (gI σ129 11) (gI σ129 10) x4_14 σ129) fun r157 =>
  nmS (sI σ129 16 ((gI σ129 16) + r157)) fun σ161 =>
  nmS (sI σ161 13 (x1 + (1 : Int32))) fun σ168 =>
  some σ168
set_option maxRecDepth 100000 in
set_option maxHeartbeats 4000000 in
theorem m_TK_goThrough (l : Launch) (D : va_G) (ad : Nat → Nat) (cs : Nat → ClassId) (eE : Nat × Nat) (x1 : Int32) (x2 : Int32) (σ : ST) {res : ST} (hf : TK_goThrough x1 x2 σ = some res) : MS l y_TK_goThrough (Cond.code y_TK_goThrough b_TK_goThrough 7 r_TK_goThrough :: BIG) 3 70 0 0 (wfm ad cs) D (ttf cs) eE [.ref (ad 4), .int x1, .int x2] σ (PV res) := by
  refine MS.of (cc := b_TK_goThrough) (maxL := 7) (ret := r_TK_goThrough) (by decide) rfl (Nat.le_of_ble_eq_true rfl) (loc := [(0, .ref (ad 4)), (1, .int x1), (2, .int x2)]) rfl (fun X C Rt => ?_)
  unfold TK_goThrough at hf
  refine j_aload_n C 0 rfl rfl d_TK_goThrough_0 ?_
  refine g_TK_book C (List.mem_cons_of_mem _ wd_1_164) d_TK_goThrough_1 ?_
  refine g_BK_row C (List.mem_cons_of_mem _ wd_1_153) d_TK_goThrough_4 ?_
  refine j_iload_n C 1 rfl rfl d_TK_goThrough_7 ?_
  obtain ⟨g8, hf⟩ := o_gn hf
  obtain ⟨q8, hq8, hf⟩ := o_b1 hf
  refine la_row C g8 hq8 d_TK_goThrough_8 ?_
  refine j_astore_n C rfl (by decide) (loc' := [(3, .ref q8), (0, .ref (ad 4)), (1, .int x1), (2, .int x2)]) rfl d_TK_goThrough_9 ?_
  refine j_aload_n C 0 rfl rfl d_TK_goThrough_10 ?_
  obtain ⟨g11, hf⟩ := o_gn hf
  refine gp_Offer_owner C (Decidable.not_not.mp g11) (List.mem_cons_of_mem _ wd_3_16) d_TK_goThrough_11 ?_
  obtain ⟨x4_14, ex4_14, hf⟩ := o_nmI hf
  refine j_topI ex4_14 ?_
  refine j_istore C (by decide) (loc' := [(4, .int x4_14), (3, .ref q8), (0, .ref (ad 4)), (1, .int x1), (2, .int x2)]) rfl d_TK_goThrough_14 ?_
  refine j_aload_n C 2 rfl rfl d_TK_goThrough_16 ?_
  refine g_TK_state C (List.mem_cons_of_mem _ wd_1_163) d_TK_goThrough_17 ?_
  refine j_aload_n C 2 rfl rfl d_TK_goThrough_20 ?_
  refine g_TK_purses C (List.mem_cons_of_mem _ wd_1_169) d_TK_goThrough_21 ?_
  refine j_iload C 0 rfl d_TK_goThrough_24 ?_
  obtain ⟨g26, hf⟩ := o_gn hf
  refine la_pur C g26 d_TK_goThrough_26 ?_
  refine j_aload_n C 2 rfl rfl d_TK_goThrough_27 ?_
  refine g_TK_got C (List.mem_cons_of_mem _ wd_1_172) d_TK_goThrough_28 ?_
  refine j_iload C 0 rfl d_TK_goThrough_31 ?_
  refine j_aload_n C 2 rfl rfl d_TK_goThrough_33 ?_
  refine g_TK_taker C (List.mem_cons_of_mem _ wd_1_170) d_TK_goThrough_34 ?_
  obtain ⟨r37, h37, hf⟩ := o_b1 hf
  refine j_callV (ci := 1) (Cn := "TollLedger$State") (T := T_ST) (N := 6) C [.int (gA σ 6 x4_14.toNatClampNeg), .int (gI σ 12), .int x4_14, .int (gI σ 10)] [] (m_ST_mostMovable _ _ _ _ _ (gA σ 6 x4_14.toNatClampNeg) (gI σ 12) x4_14 (gI σ 10) σ h37) (gdV wd_2_187 wd_2_188 wd_2_189 wd_1_2 wc_ST_mostMovable) hy_ST_mostMovable rfl ⟨1, rfl⟩ rfl rfl (by decide) (by decide) (by decide) (by decide) (Nat.le_of_ble_eq_true rfl) d_TK_goThrough_37 (j_kI (r := r37) (σ1 := σ) ?_)
  refine j_istore C (by decide) (loc' := [(5, .int r37), (4, .int x4_14), (3, .ref q8), (0, .ref (ad 4)), (1, .int x1), (2, .int x2)]) rfl d_TK_goThrough_40 ?_
  refine j_iload_n C 5 rfl rfl d_TK_goThrough_42 ?_
  refine j_aload_n C 2 rfl rfl d_TK_goThrough_43 ?_
  refine gp_Offer_g C (Decidable.not_not.mp g11) (List.mem_cons_of_mem _ wd_3_30) d_TK_goThrough_44 ?_
  refine j_iload C 0 rfl d_TK_goThrough_47 ?_
  refine j_mmin C (List.mem_cons_of_mem _ wd_2_191) (List.mem_cons_of_mem _ wd_2_142) (List.mem_cons_of_mem _ wd_1_14) (List.mem_cons_of_mem _ wm_min) (by decide) (Nat.le_of_ble_eq_true rfl) (by decide) (by decide) d_TK_goThrough_49 ?_
  refine j_mmin C (List.mem_cons_of_mem _ wd_2_191) (List.mem_cons_of_mem _ wd_2_142) (List.mem_cons_of_mem _ wd_1_14) (List.mem_cons_of_mem _ wm_min) (by decide) (Nat.le_of_ble_eq_true rfl) (by decide) (by decide) d_TK_goThrough_52 ?_
  obtain ⟨x6_55, ex6_55, hf⟩ := o_nmI hf
  refine j_topI ex6_55 ?_
  refine j_istore C (by decide) (loc' := [(6, .int x6_55), (5, .int r37), (4, .int x4_14), (3, .ref q8), (0, .ref (ad 4)), (1, .int x1), (2, .int x2)]) rfl d_TK_goThrough_55 ?_
  refine j_aload_n C 4 rfl rfl d_TK_goThrough_57 ?_
  refine g_TK_amounts C (List.mem_cons_of_mem _ wd_1_166) d_TK_goThrough_58 ?_
  refine j_iload_n C 5 rfl rfl d_TK_goThrough_61 ?_
  refine j_iload C 0 rfl d_TK_goThrough_62 ?_
  obtain ⟨σ64, eσ64, hf⟩ := o_nmS hf
  refine sa_amo C g8 eσ64 d_TK_goThrough_64 ?_
  refine j_aload_n C 4 rfl rfl d_TK_goThrough_65 ?_
  refine g_TK_prices C (List.mem_cons_of_mem _ wd_1_167) d_TK_goThrough_66 ?_
  refine j_iload_n C 5 rfl rfl d_TK_goThrough_69 ?_
  refine j_aload_n C 3 rfl rfl d_TK_goThrough_70 ?_
  refine j_iload C 0 rfl d_TK_goThrough_71 ?_
  obtain ⟨g73, hf⟩ := o_gn hf
  obtain ⟨r73, h73, hf⟩ := o_b1 hf
  refine j_callV (ci := 7) (Cn := "TollLedger$Offer") (T := T_OF) (N := 6) C [.int x6_55] [.int x1, .ref (ad 14)] (m_OF_priceOf _ _ _ _ _ q8 x6_55 σ64 h73) (gdV wd_2_192 wd_2_193 wd_2_194 wd_1_16 wc_OF_priceOf) hy_OF_priceOf rfl (rdp2 (Decidable.not_not.mp g73)) rfl rfl (by decide) (by decide) (by decide) (by decide) (Nat.le_of_ble_eq_true rfl) d_TK_goThrough_73 (j_kI (r := r73) (σ1 := σ64) ?_)
  obtain ⟨σ76, eσ76, hf⟩ := o_nmS hf
  refine sa_pri C g8 eσ76 d_TK_goThrough_76 ?_
  refine j_aload_n C 4 rfl rfl d_TK_goThrough_77 ?_
  refine g_TK_purses C (List.mem_cons_of_mem _ wd_1_169) d_TK_goThrough_78 ?_
  refine j_iload C 2 rfl d_TK_goThrough_81 ?_
  refine j_dup2 C rfl rfl d_TK_goThrough_83 ?_
  refine la_pur C g26 d_TK_goThrough_84 ?_
  refine j_aload_n C 4 rfl rfl d_TK_goThrough_85 ?_
  refine g_TK_state C (List.mem_cons_of_mem _ wd_1_163) d_TK_goThrough_86 ?_
  refine j_iload C 0 rfl d_TK_goThrough_89 ?_
  refine j_aload_n C 4 rfl rfl d_TK_goThrough_91 ?_
  refine g_TK_got C (List.mem_cons_of_mem _ wd_1_172) d_TK_goThrough_92 ?_
  refine j_iload C 2 rfl d_TK_goThrough_95 ?_
  refine j_aload_n C 4 rfl rfl d_TK_goThrough_97 ?_
  refine g_TK_taker C (List.mem_cons_of_mem _ wd_1_170) d_TK_goThrough_98 ?_
  obtain ⟨r101, h101, hf⟩ := o_b1 hf
  refine j_callV (ci := 1) (Cn := "TollLedger$State") (T := T_ST) (N := 6) C [.int x6_55, .int (gI σ76 12), .int x4_14, .int (gI σ76 10)] [.int (gA σ76 6 x4_14.toNatClampNeg), .int x4_14, .ref (ad 16)] (m_ST_costOf _ _ _ _ _ x6_55 (gI σ76 12) x4_14 (gI σ76 10) σ76 h101) (gdV wd_2_196 wd_2_159 wd_2_160 wd_1_2 wc_ST_costOf) hy_ST_costOf rfl ⟨1, rfl⟩ rfl rfl (by decide) (by decide) (by decide) (by decide) (Nat.le_of_ble_eq_true rfl) d_TK_goThrough_101 (j_kI (r := r101) (σ1 := σ76) ?_)
  refine j_isub C d_TK_goThrough_104 ?_
  obtain ⟨σ105, eσ105, hf⟩ := o_nmS hf
  refine sa_pur C g26 eσ105 d_TK_goThrough_105 ?_
  refine j_aload_n C 4 rfl rfl d_TK_goThrough_106 ?_
  refine j_dup C rfl d_TK_goThrough_107 ?_
  refine g_TK_taken C (List.mem_cons_of_mem _ wd_1_174) d_TK_goThrough_108 ?_
  refine j_iload C 0 rfl d_TK_goThrough_111 ?_
  refine j_iadd C d_TK_goThrough_113 ?_
  obtain ⟨σ114, eσ114, hf⟩ := o_nmS hf
  refine p_TK_taken C eσ114 (List.mem_cons_of_mem _ wd_1_174) d_TK_goThrough_114 ?_
  refine j_aload_n C 4 rfl rfl d_TK_goThrough_117 ?_
  refine j_dup C rfl d_TK_goThrough_118 ?_
  refine g_TK_price C (List.mem_cons_of_mem _ wd_1_176) d_TK_goThrough_119 ?_
  refine j_aload_n C 4 rfl rfl d_TK_goThrough_122 ?_
  refine g_TK_prices C (List.mem_cons_of_mem _ wd_1_167) d_TK_goThrough_123 ?_
  refine j_iload_n C 5 rfl rfl d_TK_goThrough_126 ?_
  refine la_pri C g8 d_TK_goThrough_127 ?_
  refine j_iadd C d_TK_goThrough_128 ?_
  obtain ⟨σ129, eσ129, hf⟩ := o_nmS hf
  refine p_TK_price C eσ129 (List.mem_cons_of_mem _ wd_1_176) d_TK_goThrough_129 ?_
  refine j_aload_n C 4 rfl rfl d_TK_goThrough_132 ?_
  refine j_dup C rfl d_TK_goThrough_133 ?_
  refine g_TK_cost C (List.mem_cons_of_mem _ wd_1_178) d_TK_goThrough_134 ?_
  refine j_aload_n C 4 rfl rfl d_TK_goThrough_137 ?_
  refine g_TK_state C (List.mem_cons_of_mem _ wd_1_163) d_TK_goThrough_138 ?_
  refine j_aload_n C 4 rfl rfl d_TK_goThrough_141 ?_
  refine g_TK_prices C (List.mem_cons_of_mem _ wd_1_167) d_TK_goThrough_142 ?_
  refine j_iload_n C 5 rfl rfl d_TK_goThrough_145 ?_
  refine la_pri C g8 d_TK_goThrough_146 ?_
  refine j_aload_n C 4 rfl rfl d_TK_goThrough_147 ?_
  refine g_TK_paid C (List.mem_cons_of_mem _ wd_1_171) d_TK_goThrough_148 ?_
  refine j_aload_n C 4 rfl rfl d_TK_goThrough_151 ?_
  refine g_TK_taker C (List.mem_cons_of_mem _ wd_1_170) d_TK_goThrough_152 ?_
  refine j_iload C 2 rfl d_TK_goThrough_155 ?_
  obtain ⟨r157, h157, hf⟩ := o_b1 hf
  refine j_callV (ci := 1) (Cn := "TollLedger$State") (T := T_ST) (N := 6) C [.int (gA σ129 4 x1.toNatClampNeg), .int (gI σ129 11), .int (gI σ129 10), .int x4_14] [.int (gI σ129 16), .ref (ad 4)] (m_ST_costOf _ _ _ _ _ (gA σ129 4 x1.toNatClampNeg) (gI σ129 11) (gI σ129 10) x4_14 σ129 h157) (gdV wd_2_196 wd_2_159 wd_2_160 wd_1_2 wc_ST_costOf) hy_ST_costOf rfl ⟨1, rfl⟩ rfl rfl (by decide) (by decide) (by decide) (by decide) (Nat.le_of_ble_eq_true rfl) d_TK_goThrough_157 (j_kI (r := r157) (σ1 := σ129) ?_)
  refine j_iadd C d_TK_goThrough_160 ?_
  obtain ⟨σ161, eσ161, hf⟩ := o_nmS hf
  refine p_TK_cost C eσ161 (List.mem_cons_of_mem _ wd_1_178) d_TK_goThrough_161 ?_
  refine j_aload_n C 4 rfl rfl d_TK_goThrough_164 ?_
  refine j_iload_n C 5 rfl rfl d_TK_goThrough_165 ?_
  refine j_iconst C (v := 1) (by decide) d_TK_goThrough_166 ?_
  refine j_iadd C d_TK_goThrough_167 ?_
  obtain ⟨σ168, eσ168, hf⟩ := o_nmS hf
  refine p_TK_reached C eσ168 (List.mem_cons_of_mem _ wd_1_173) d_TK_goThrough_168 ?_
  have hf := Option.some.inj hf
  subst hf
  exact j_vret C Rt (Nat.zero_le _) (Nat.zero_le _) d_TK_goThrough_171 ⟨rfl, rfl⟩
theorem d_TK_isCrossed_0 : decode b_TK_isCrossed 0 = .ok (.aload_n 0, 1) := by decide +kernel
theorem d_TK_isCrossed_1 : decode b_TK_isCrossed 1 = .ok (.getfield 107, 3) := by decide +kernel
theorem d_TK_isCrossed_4 : decode b_TK_isCrossed 4 = .ok (.i2l, 1) := by decide +kernel
theorem d_TK_isCrossed_5 : decode b_TK_isCrossed 5 = .ok (.iload_n 1, 1) := by decide +kernel
theorem d_TK_isCrossed_6 : decode b_TK_isCrossed 6 = .ok (.i2l, 1) := by decide +kernel
theorem d_TK_isCrossed_7 : decode b_TK_isCrossed 7 = .ok (.lmul, 1) := by decide +kernel
theorem d_TK_isCrossed_8 : decode b_TK_isCrossed 8 = .ok (.iload_n 2, 1) := by decide +kernel
theorem d_TK_isCrossed_9 : decode b_TK_isCrossed 9 = .ok (.i2l, 1) := by decide +kernel
theorem d_TK_isCrossed_10 : decode b_TK_isCrossed 10 = .ok (.aload_n 0, 1) := by decide +kernel
theorem d_TK_isCrossed_11 : decode b_TK_isCrossed 11 = .ok (.getfield 110, 3) := by decide +kernel
theorem d_TK_isCrossed_14 : decode b_TK_isCrossed 14 = .ok (.i2l, 1) := by decide +kernel
theorem d_TK_isCrossed_15 : decode b_TK_isCrossed 15 = .ok (.lmul, 1) := by decide +kernel
theorem d_TK_isCrossed_16 : decode b_TK_isCrossed 16 = .ok (.lcmp, 1) := by decide +kernel
theorem d_TK_isCrossed_17 : decode b_TK_isCrossed 17 = .ok (.ifCond .gt 7, 3) := by decide +kernel
theorem d_TK_isCrossed_20 : decode b_TK_isCrossed 20 = .ok (.iconst 1, 1) := by decide +kernel
theorem d_TK_isCrossed_21 : decode b_TK_isCrossed 21 = .ok (.goto 4, 3) := by decide +kernel
theorem d_TK_isCrossed_24 : decode b_TK_isCrossed 24 = .ok (.iconst 0, 1) := by decide +kernel
theorem d_TK_isCrossed_25 : decode b_TK_isCrossed 25 = .ok (.ireturn, 1) := by decide +kernel
def TK_isCrossed (x0 : Nat) (x1 : Int32) (x2 : Int32) (σ : ST) : Option (Int32) :=
  if ¬ (x0 ∈ pL σ ∧ pK σ x0 = 2) then none else
  if 0 < (lg_cmp ((pP σ x0 3).toInt64 * x1.toInt64) (x2.toInt64 * (pP σ x0 5).toInt64)) then (some (0 : Int32))
  else (some (1 : Int32))
set_option maxRecDepth 100000 in
set_option maxHeartbeats 4000000 in
theorem m_TK_isCrossed (l : Launch) (D : va_G) (ad : Nat → Nat) (cs : Nat → ClassId) (eE : Nat × Nat) (x0 : Nat) (x1 : Int32) (x2 : Int32) (σ : ST) {res : Int32} (hf : TK_isCrossed x0 x1 x2 σ = some res) : MS l y_TK_isCrossed (Cond.code y_TK_isCrossed b_TK_isCrossed 3 r_TK_isCrossed :: BIG) 0 0 0 0 (wfm ad cs) D (ttf cs) eE [.ref x0, .int x1, .int x2] σ (PI res σ) := by
  refine MS.of (cc := b_TK_isCrossed) (maxL := 3) (ret := r_TK_isCrossed) (by decide) rfl (Nat.le_of_ble_eq_true rfl) (loc := [(0, .ref x0), (1, .int x1), (2, .int x2)]) rfl (fun X C Rt => ?_)
  unfold TK_isCrossed at hf
  refine j_aload_n C 0 rfl rfl d_TK_isCrossed_0 ?_
  obtain ⟨g1, hf⟩ := o_gn hf
  refine gp_Offer_w C (Decidable.not_not.mp g1) (List.mem_cons_of_mem _ wd_3_23) d_TK_isCrossed_1 ?_
  refine j_i2l C d_TK_isCrossed_4 ?_
  refine j_iload_n C 1 rfl rfl d_TK_isCrossed_5 ?_
  refine j_i2l C d_TK_isCrossed_6 ?_
  refine j_lmul C d_TK_isCrossed_7 ?_
  refine j_iload_n C 2 rfl rfl d_TK_isCrossed_8 ?_
  refine j_i2l C d_TK_isCrossed_9 ?_
  refine j_aload_n C 0 rfl rfl d_TK_isCrossed_10 ?_
  refine gp_Offer_g C (Decidable.not_not.mp g1) (List.mem_cons_of_mem _ wd_3_30) d_TK_isCrossed_11 ?_
  refine j_i2l C d_TK_isCrossed_14 ?_
  refine j_lmul C d_TK_isCrossed_15 ?_
  refine j_lcmp C d_TK_isCrossed_16 ?_
  refine j_if_gt C d_TK_isCrossed_17 rfl (fun c17 => ?_) (fun c17 => ?_)
  · have hf := o_it c17 hf
    refine j_iconst C (v := 0) (by decide) d_TK_isCrossed_24 ?_
    have hf := Option.some.inj hf
    subst hf
    exact j_zret C Rt (by decide) (Nat.zero_le _) (Nat.zero_le _) d_TK_isCrossed_25 ⟨rfl, rfl⟩
  · have hf := o_if c17 hf
    refine j_iconst C (v := 1) (by decide) d_TK_isCrossed_20 ?_
    refine j_goto C d_TK_isCrossed_21 rfl ?_
    have hf := Option.some.inj hf
    subst hf
    exact j_zret C Rt (by decide) (Nat.zero_le _) (Nat.zero_le _) d_TK_isCrossed_25 ⟨rfl, rfl⟩
theorem d_TK_open_0 : decode b_TK_open 0 = .ok (.aload_n 0, 1) := by decide +kernel
theorem d_TK_open_1 : decode b_TK_open 1 = .ok (.iload_n 1, 1) := by decide +kernel
theorem d_TK_open_2 : decode b_TK_open 2 = .ok (.putfield 35, 3) := by decide +kernel
theorem d_TK_open_5 : decode b_TK_open 5 = .ok (.aload_n 0, 1) := by decide +kernel
theorem d_TK_open_6 : decode b_TK_open 6 = .ok (.iload_n 2, 1) := by decide +kernel
theorem d_TK_open_7 : decode b_TK_open 7 = .ok (.putfield 39, 3) := by decide +kernel
theorem d_TK_open_10 : decode b_TK_open 10 = .ok (.aload_n 0, 1) := by decide +kernel
theorem d_TK_open_11 : decode b_TK_open 11 = .ok (.iload_n 3, 1) := by decide +kernel
theorem d_TK_open_12 : decode b_TK_open 12 = .ok (.putfield 42, 3) := by decide +kernel
theorem d_TK_open_15 : decode b_TK_open 15 = .ok (.aload_n 0, 1) := by decide +kernel
theorem d_TK_open_16 : decode b_TK_open 16 = .ok (.getfield 12, 3) := by decide +kernel
theorem d_TK_open_19 : decode b_TK_open 19 = .ok (.aload_n 0, 1) := by decide +kernel
theorem d_TK_open_20 : decode b_TK_open 20 = .ok (.getfield 31, 3) := by decide +kernel
theorem d_TK_open_23 : decode b_TK_open 23 = .ok (.getfield 45, 3) := by decide +kernel
theorem d_TK_open_26 : decode b_TK_open 26 = .ok (.iload_n 2, 1) := by decide +kernel
theorem d_TK_open_27 : decode b_TK_open 27 = .ok (.iload_n 3, 1) := by decide +kernel
theorem d_TK_open_28 : decode b_TK_open 28 = .ok (.iload_n 1, 1) := by decide +kernel
theorem d_TK_open_29 : decode b_TK_open 29 = .ok (.invokevirtual 51, 3) := by decide +kernel
theorem d_TK_open_32 : decode b_TK_open 32 = .ok (.iconst 0, 1) := by decide +kernel
theorem d_TK_open_33 : decode b_TK_open 33 = .ok (.istore 4, 2) := by decide +kernel
theorem d_TK_open_35 : decode b_TK_open 35 = .ok (.iload 4, 2) := by decide +kernel
theorem d_TK_open_37 : decode b_TK_open 37 = .ok (.bipush 6, 2) := by decide +kernel
theorem d_TK_open_39 : decode b_TK_open 39 = .ok (.if_icmp .ge 26, 3) := by decide +kernel
theorem d_TK_open_42 : decode b_TK_open 42 = .ok (.aload_n 0, 1) := by decide +kernel
theorem d_TK_open_43 : decode b_TK_open 43 = .ok (.getfield 25, 3) := by decide +kernel
theorem d_TK_open_46 : decode b_TK_open 46 = .ok (.iload 4, 2) := by decide +kernel
theorem d_TK_open_48 : decode b_TK_open 48 = .ok (.aload_n 0, 1) := by decide +kernel
theorem d_TK_open_49 : decode b_TK_open 49 = .ok (.getfield 31, 3) := by decide +kernel
theorem d_TK_open_52 : decode b_TK_open 52 = .ok (.iload 4, 2) := by decide +kernel
theorem d_TK_open_54 : decode b_TK_open 54 = .ok (.iload_n 3, 1) := by decide +kernel
theorem d_TK_open_55 : decode b_TK_open 55 = .ok (.invokevirtual 55, 3) := by decide +kernel
theorem d_TK_open_58 : decode b_TK_open 58 = .ok (.iastore, 1) := by decide +kernel
theorem d_TK_open_59 : decode b_TK_open 59 = .ok (.iinc 4 1, 3) := by decide +kernel
theorem d_TK_open_62 : decode b_TK_open 62 = .ok (.goto (-27), 3) := by decide +kernel
theorem d_TK_open_65 : decode b_TK_open 65 = .ok (.return_, 1) := by decide +kernel
def TK_open_b35 (kb35 : Int32 → Int32 → ST → Option (ST)) (x3 : Int32) (x4 : Int32) (σ : ST) : Option (ST) :=
  if (6 : Int32) ≤ x4 then (some σ)
  else (bd1 (ST_fundsOf x4 x3 σ) fun r55 =>
  if x4 < 0 ∨ 6 ≤ x4.toNatClampNeg then none else
  nmS (sA σ 5 x4.toNatClampNeg r55) fun σ58 =>
  kb35 x3 (x4 + 1) σ58)
set_option maxRecDepth 100000 in
set_option maxHeartbeats 4000000 in
theorem w_TK_open_b35 {X : JX} (C : JC X l D (ttf cs) eE b_TK_open "TollLedger$Taking" 5 (Cond.code y_TK_open b_TK_open 5 r_TK_open :: BIG) 6 131 0 0) {res : ST} (Rt : JR X (wfm ad cs) 0 0 (PV res) r_TK_open "open") {kb35 : Int32 → Int32 → ST → Option (ST)} (hk35 : ∀ (x3 : Int32) (x4 : Int32) (σ : ST), kb35 x3 x4 σ = some res → J (wfm ad cs) X 5 0 0 σ 35 [(0, .ref (ad 4)), (3, .int x3), (4, .int x4)] []) (x3 : Int32) (x4 : Int32) (σ : ST) (hf : TK_open_b35 kb35 x3 x4 σ = some res) : J (wfm ad cs) X 5 0 0 σ 35 [(0, .ref (ad 4)), (3, .int x3), (4, .int x4)] [] := by
  unfold TK_open_b35 at hf
  refine j_iload C 2 rfl d_TK_open_35 ?_
  refine j_bipush C (v := 6) (by decide) d_TK_open_37 ?_
  refine j_icmp_ge C d_TK_open_39 rfl (fun c39 => ?_) (fun c39 => ?_)
  · have hf := o_it c39 hf
    have hf := Option.some.inj hf
    subst hf
    exact j_vret C Rt (Nat.zero_le _) (Nat.zero_le _) d_TK_open_65 ⟨rfl, rfl⟩
  · have hf := o_if c39 hf
    refine j_aload_n C 0 rfl rfl d_TK_open_42 ?_
    refine g_TK_funds C (List.mem_cons_of_mem _ wd_1_168) d_TK_open_43 ?_
    refine j_iload C 2 rfl d_TK_open_46 ?_
    refine j_aload_n C 0 rfl rfl d_TK_open_48 ?_
    refine g_TK_state C (List.mem_cons_of_mem _ wd_1_163) d_TK_open_49 ?_
    refine j_iload C 2 rfl d_TK_open_52 ?_
    refine j_iload_n C 1 rfl rfl d_TK_open_54 ?_
    obtain ⟨r55, h55, hf⟩ := o_b1 hf
    refine j_callV (ci := 1) (Cn := "TollLedger$State") (T := T_ST) (N := 6) C [.int x4, .int x3] [.int x4, .ref (ad 15)] (m_ST_fundsOf _ _ _ _ _ x4 x3 σ h55) (gdV wd_2_140 wd_2_32 wd_2_33 wd_1_2 wc_ST_fundsOf) hy_ST_fundsOf rfl ⟨1, rfl⟩ rfl rfl (by decide) (by decide) (by decide) (by decide) (Nat.le_of_ble_eq_true rfl) d_TK_open_55 (j_kI (r := r55) (σ1 := σ) ?_)
    obtain ⟨g58, hf⟩ := o_gn hf
    obtain ⟨σ58, eσ58, hf⟩ := o_nmS hf
    refine sa_fun C g58 eσ58 d_TK_open_58 ?_
    refine j_iinc C 2 rfl (v := (x4 + 1)) (inc_p1 _) (by decide) (loc' := [(4, .int (x4 + 1)), (0, .ref (ad 4)), (3, .int x3)]) rfl d_TK_open_59 ?_
    refine j_goto C d_TK_open_62 rfl ?_
    refine j_sub [1, 2, 0] rfl ?_
    exact hk35 x3 (x4 + 1) σ58 hf
def TK_open_L35 : Nat → Int32 → Int32 → ST → Option (ST)
  | 0, _, _, _ => none
  | N + 1, x3, x4, σ => TK_open_b35 (fun x3 x4 σ => TK_open_L35 N x3 x4 σ) x3 x4 σ
theorem w_TK_open_L35 {X : JX} (C : JC X l D (ttf cs) eE b_TK_open "TollLedger$Taking" 5 (Cond.code y_TK_open b_TK_open 5 r_TK_open :: BIG) 6 131 0 0) {res : ST} (Rt : JR X (wfm ad cs) 0 0 (PV res) r_TK_open "open")  (N : Nat) (x3 : Int32) (x4 : Int32) (σ : ST) (hf : TK_open_L35 N x3 x4 σ = some res) : J (wfm ad cs) X 5 0 0 σ 35 [(0, .ref (ad 4)), (3, .int x3), (4, .int x4)] [] := by
  induction N generalizing x3 x4 σ with
  | zero => exact nomatch hf
  | succ N ih => exact w_TK_open_b35 C Rt  (fun x3 x4 σ h => ih x3 x4 σ h) x3 x4 σ hf
def TK_open (x1 : Int32) (x2 : Int32) (x3 : Int32) (σ : ST) : Option (ST) :=
  nmS (sI σ 10 x1) fun σ2 =>
  nmS (sI σ2 11 x2) fun σ7 =>
  nmS (sI σ7 12 x3) fun σ12 =>
  bd1 (BK_gather x2 x3 x1 σ12) fun σ29 =>
  TK_open_L35 FU x3 (0 : Int32) σ29
set_option maxRecDepth 100000 in
set_option maxHeartbeats 4000000 in
theorem m_TK_open (l : Launch) (D : va_G) (ad : Nat → Nat) (cs : Nat → ClassId) (eE : Nat × Nat) (x1 : Int32) (x2 : Int32) (x3 : Int32) (σ : ST) {res : ST} (hf : TK_open x1 x2 x3 σ = some res) : MS l y_TK_open (Cond.code y_TK_open b_TK_open 5 r_TK_open :: BIG) 6 131 0 0 (wfm ad cs) D (ttf cs) eE [.ref (ad 4), .int x1, .int x2, .int x3] σ (PV res) := by
  refine MS.of (cc := b_TK_open) (maxL := 5) (ret := r_TK_open) (by decide) rfl (Nat.le_of_ble_eq_true rfl) (loc := [(0, .ref (ad 4)), (1, .int x1), (2, .int x2), (3, .int x3)]) rfl (fun X C Rt => ?_)
  unfold TK_open at hf
  refine j_aload_n C 0 rfl rfl d_TK_open_0 ?_
  refine j_iload_n C 1 rfl rfl d_TK_open_1 ?_
  obtain ⟨σ2, eσ2, hf⟩ := o_nmS hf
  refine p_TK_taker C eσ2 (List.mem_cons_of_mem _ wd_1_170) d_TK_open_2 ?_
  refine j_aload_n C 0 rfl rfl d_TK_open_5 ?_
  refine j_iload_n C 2 rfl rfl d_TK_open_6 ?_
  obtain ⟨σ7, eσ7, hf⟩ := o_nmS hf
  refine p_TK_paid C eσ7 (List.mem_cons_of_mem _ wd_1_171) d_TK_open_7 ?_
  refine j_aload_n C 0 rfl rfl d_TK_open_10 ?_
  refine j_iload_n C 3 rfl rfl d_TK_open_11 ?_
  obtain ⟨σ12, eσ12, hf⟩ := o_nmS hf
  refine p_TK_got C eσ12 (List.mem_cons_of_mem _ wd_1_172) d_TK_open_12 ?_
  refine j_aload_n C 0 rfl rfl d_TK_open_15 ?_
  refine g_TK_book C (List.mem_cons_of_mem _ wd_1_164) d_TK_open_16 ?_
  refine j_aload_n C 0 rfl rfl d_TK_open_19 ?_
  refine g_TK_state C (List.mem_cons_of_mem _ wd_1_163) d_TK_open_20 ?_
  refine g_ST_offers C (List.mem_cons_of_mem _ wd_1_117) d_TK_open_23 ?_
  refine j_iload_n C 2 rfl rfl d_TK_open_26 ?_
  refine j_iload_n C 3 rfl rfl d_TK_open_27 ?_
  refine j_iload_n C 1 rfl rfl d_TK_open_28 ?_
  obtain ⟨σ29, h29, hf⟩ := o_b1 hf
  refine j_callV (ci := 3) (Cn := "TollLedger$Book") (T := T_BK) (N := 2) C [.ref (ad 6), .int x2, .int x3, .int x1] [] (m_BK_gather _ _ _ _ _ x2 x3 x1 σ12 h29) (gdV wd_2_126 wd_2_127 wd_2_128 wd_1_9 wc_BK_gather) hy_BK_gather rfl ⟨3, rfl⟩ rfl rfl (by decide) (by decide) (by decide) (by decide) (Nat.le_of_ble_eq_true rfl) d_TK_open_29 (j_kV (σ1 := σ29) ?_)
  refine j_iconst C (v := 0) (by decide) d_TK_open_32 ?_
  refine j_istore C (by decide) (loc' := [(4, .int (0 : Int32)), (0, .ref (ad 4)), (1, .int x1), (2, .int x2), (3, .int x3)]) rfl d_TK_open_33 ?_
  refine j_sub [1, 4, 0] rfl ?_
  exact w_TK_open_L35 C Rt  FU x3 (0 : Int32) σ29 hf
theorem d_TK_startPlan_0 : decode b_TK_startPlan 0 = .ok (.aload_n 0, 1) := by decide +kernel
theorem d_TK_startPlan_1 : decode b_TK_startPlan 1 = .ok (.getfield 25, 3) := by decide +kernel
theorem d_TK_startPlan_4 : decode b_TK_startPlan 4 = .ok (.iconst 0, 1) := by decide +kernel
theorem d_TK_startPlan_5 : decode b_TK_startPlan 5 = .ok (.aload_n 0, 1) := by decide +kernel
theorem d_TK_startPlan_6 : decode b_TK_startPlan 6 = .ok (.getfield 28, 3) := by decide +kernel
theorem d_TK_startPlan_9 : decode b_TK_startPlan 9 = .ok (.iconst 0, 1) := by decide +kernel
theorem d_TK_startPlan_10 : decode b_TK_startPlan 10 = .ok (.bipush 6, 2) := by decide +kernel
theorem d_TK_startPlan_12 : decode b_TK_startPlan 12 = .ok (.invokestatic 113, 3) := by decide +kernel
theorem d_TK_startPlan_15 : decode b_TK_startPlan 15 = .ok (.aload_n 0, 1) := by decide +kernel
theorem d_TK_startPlan_16 : decode b_TK_startPlan 16 = .ok (.iconst 0, 1) := by decide +kernel
theorem d_TK_startPlan_17 : decode b_TK_startPlan 17 = .ok (.putfield 119, 3) := by decide +kernel
theorem d_TK_startPlan_20 : decode b_TK_startPlan 20 = .ok (.aload_n 0, 1) := by decide +kernel
theorem d_TK_startPlan_21 : decode b_TK_startPlan 21 = .ok (.iconst 0, 1) := by decide +kernel
theorem d_TK_startPlan_22 : decode b_TK_startPlan 22 = .ok (.putfield 65, 3) := by decide +kernel
theorem d_TK_startPlan_25 : decode b_TK_startPlan 25 = .ok (.aload_n 0, 1) := by decide +kernel
theorem d_TK_startPlan_26 : decode b_TK_startPlan 26 = .ok (.iconst 0, 1) := by decide +kernel
theorem d_TK_startPlan_27 : decode b_TK_startPlan 27 = .ok (.putfield 92, 3) := by decide +kernel
theorem d_TK_startPlan_30 : decode b_TK_startPlan 30 = .ok (.aload_n 0, 1) := by decide +kernel
theorem d_TK_startPlan_31 : decode b_TK_startPlan 31 = .ok (.iconst 0, 1) := by decide +kernel
theorem d_TK_startPlan_32 : decode b_TK_startPlan 32 = .ok (.putfield 80, 3) := by decide +kernel
theorem d_TK_startPlan_35 : decode b_TK_startPlan 35 = .ok (.return_, 1) := by decide +kernel
def TK_startPlan (σ : ST) : Option (ST) :=
  nmS (sW σ 6 (va_cpy (gA σ 5) (gA σ 6) (0 : Int32).toNatClampNeg (0 : Int32).toNatClampNeg (6 : Int32).toNatClampNeg)) fun σ12 =>
  nmS (sI σ12 13 (0 : Int32)) fun σ17 =>
  nmS (sI σ17 14 (0 : Int32)) fun σ22 =>
  nmS (sI σ22 15 (0 : Int32)) fun σ27 =>
  nmS (sI σ27 16 (0 : Int32)) fun σ32 =>
  some σ32
set_option maxRecDepth 100000 in
set_option maxHeartbeats 4000000 in
theorem m_TK_startPlan (l : Launch) (D : va_G) (ad : Nat → Nat) (cs : Nat → ClassId) (eE : Nat × Nat) (σ : ST) {res : ST} (hf : TK_startPlan σ = some res) : MS l y_TK_startPlan (Cond.code y_TK_startPlan b_TK_startPlan 1 r_TK_startPlan :: BIG) 1 26 0 0 (wfm ad cs) D (ttf cs) eE [.ref (ad 4)] σ (PV res) := by
  refine MS.of (cc := b_TK_startPlan) (maxL := 1) (ret := r_TK_startPlan) (by decide) rfl (Nat.le_of_ble_eq_true rfl) (loc := [(0, .ref (ad 4))]) rfl (fun X C Rt => ?_)
  unfold TK_startPlan at hf
  refine j_aload_n C 0 rfl rfl d_TK_startPlan_0 ?_
  refine g_TK_funds C (List.mem_cons_of_mem _ wd_1_168) d_TK_startPlan_1 ?_
  refine j_iconst C (v := 0) (by decide) d_TK_startPlan_4 ?_
  refine j_aload_n C 0 rfl rfl d_TK_startPlan_5 ?_
  refine g_TK_purses C (List.mem_cons_of_mem _ wd_1_169) d_TK_startPlan_6 ?_
  refine j_iconst C (v := 0) (by decide) d_TK_startPlan_9 ?_
  refine j_bipush C (v := 6) (by decide) d_TK_startPlan_10 ?_
  obtain ⟨σ12, eσ12, hf⟩ := o_nmS hf
  refine cp_fun_pur C eσ12 (List.mem_cons_of_mem _ wd_2_180) (List.mem_cons_of_mem _ wd_2_182) (List.mem_cons_of_mem _ wd_2_181) (List.mem_cons_of_mem _ wd_1_15) (by decide) (Nat.le_of_ble_eq_true rfl) d_TK_startPlan_12 ?_
  refine j_aload_n C 0 rfl rfl d_TK_startPlan_15 ?_
  refine j_iconst C (v := 0) (by decide) d_TK_startPlan_16 ?_
  obtain ⟨σ17, eσ17, hf⟩ := o_nmS hf
  refine p_TK_reached C eσ17 (List.mem_cons_of_mem _ wd_1_173) d_TK_startPlan_17 ?_
  refine j_aload_n C 0 rfl rfl d_TK_startPlan_20 ?_
  refine j_iconst C (v := 0) (by decide) d_TK_startPlan_21 ?_
  obtain ⟨σ22, eσ22, hf⟩ := o_nmS hf
  refine p_TK_taken C eσ22 (List.mem_cons_of_mem _ wd_1_174) d_TK_startPlan_22 ?_
  refine j_aload_n C 0 rfl rfl d_TK_startPlan_25 ?_
  refine j_iconst C (v := 0) (by decide) d_TK_startPlan_26 ?_
  obtain ⟨σ27, eσ27, hf⟩ := o_nmS hf
  refine p_TK_price C eσ27 (List.mem_cons_of_mem _ wd_1_176) d_TK_startPlan_27 ?_
  refine j_aload_n C 0 rfl rfl d_TK_startPlan_30 ?_
  refine j_iconst C (v := 0) (by decide) d_TK_startPlan_31 ?_
  obtain ⟨σ32, eσ32, hf⟩ := o_nmS hf
  refine p_TK_cost C eσ32 (List.mem_cons_of_mem _ wd_1_178) d_TK_startPlan_32 ?_
  have hf := Option.some.inj hf
  subst hf
  exact j_vret C Rt (Nat.zero_le _) (Nat.zero_le _) d_TK_startPlan_35 ⟨rfl, rfl⟩
theorem d_TK_planAll_0 : decode b_TK_planAll 0 = .ok (.aload_n 0, 1) := by decide +kernel
theorem d_TK_planAll_1 : decode b_TK_planAll 1 = .ok (.invokevirtual 59, 3) := by decide +kernel
theorem d_TK_planAll_4 : decode b_TK_planAll 4 = .ok (.iconst 0, 1) := by decide +kernel
theorem d_TK_planAll_5 : decode b_TK_planAll 5 = .ok (.istore_n 2, 1) := by decide +kernel
theorem d_TK_planAll_6 : decode b_TK_planAll 6 = .ok (.iload_n 2, 1) := by decide +kernel
theorem d_TK_planAll_7 : decode b_TK_planAll 7 = .ok (.aload_n 0, 1) := by decide +kernel
theorem d_TK_planAll_8 : decode b_TK_planAll 8 = .ok (.getfield 12, 3) := by decide +kernel
theorem d_TK_planAll_11 : decode b_TK_planAll 11 = .ok (.getfield 62, 3) := by decide +kernel
theorem d_TK_planAll_14 : decode b_TK_planAll 14 = .ok (.if_icmp .ge 28, 3) := by decide +kernel
theorem d_TK_planAll_17 : decode b_TK_planAll 17 = .ok (.aload_n 0, 1) := by decide +kernel
theorem d_TK_planAll_18 : decode b_TK_planAll 18 = .ok (.getfield 65, 3) := by decide +kernel
theorem d_TK_planAll_21 : decode b_TK_planAll 21 = .ok (.iload_n 1, 1) := by decide +kernel
theorem d_TK_planAll_22 : decode b_TK_planAll 22 = .ok (.if_icmp .ge 20, 3) := by decide +kernel
theorem d_TK_planAll_25 : decode b_TK_planAll 25 = .ok (.aload_n 0, 1) := by decide +kernel
theorem d_TK_planAll_26 : decode b_TK_planAll 26 = .ok (.iload_n 2, 1) := by decide +kernel
theorem d_TK_planAll_27 : decode b_TK_planAll 27 = .ok (.iload_n 1, 1) := by decide +kernel
theorem d_TK_planAll_28 : decode b_TK_planAll 28 = .ok (.aload_n 0, 1) := by decide +kernel
theorem d_TK_planAll_29 : decode b_TK_planAll 29 = .ok (.getfield 65, 3) := by decide +kernel
theorem d_TK_planAll_32 : decode b_TK_planAll 32 = .ok (.isub, 1) := by decide +kernel
theorem d_TK_planAll_33 : decode b_TK_planAll 33 = .ok (.invokevirtual 68, 3) := by decide +kernel
theorem d_TK_planAll_36 : decode b_TK_planAll 36 = .ok (.iinc 2 1, 3) := by decide +kernel
theorem d_TK_planAll_39 : decode b_TK_planAll 39 = .ok (.goto (-33), 3) := by decide +kernel
theorem d_TK_planAll_42 : decode b_TK_planAll 42 = .ok (.return_, 1) := by decide +kernel
def TK_planAll_b6 (kb6 : Int32 → Int32 → ST → Option (ST)) (x1 : Int32) (x2 : Int32) (σ : ST) : Option (ST) :=
  if (gI σ 9) ≤ x2 then (some σ)
  else (if x1 ≤ (gI σ 14) then (some σ)
  else (bd1 (TK_goThrough x2 (x1 - (gI σ 14)) σ) fun σ33 =>
  kb6 x1 (x2 + 1) σ33))
set_option maxRecDepth 100000 in
set_option maxHeartbeats 4000000 in
theorem w_TK_planAll_b6 {X : JX} (C : JC X l D (ttf cs) eE b_TK_planAll "TollLedger$Taking" 3 (Cond.code y_TK_planAll b_TK_planAll 3 r_TK_planAll :: BIG) 4 96 0 0) {res : ST} (Rt : JR X (wfm ad cs) 0 0 (PV res) r_TK_planAll "planAll") {kb6 : Int32 → Int32 → ST → Option (ST)} (hk6 : ∀ (x1 : Int32) (x2 : Int32) (σ : ST), kb6 x1 x2 σ = some res → J (wfm ad cs) X 3 0 0 σ 6 [(0, .ref (ad 4)), (1, .int x1), (2, .int x2)] []) (x1 : Int32) (x2 : Int32) (σ : ST) (hf : TK_planAll_b6 kb6 x1 x2 σ = some res) : J (wfm ad cs) X 3 0 0 σ 6 [(0, .ref (ad 4)), (1, .int x1), (2, .int x2)] [] := by
  unfold TK_planAll_b6 at hf
  refine j_iload_n C 2 rfl rfl d_TK_planAll_6 ?_
  refine j_aload_n C 0 rfl rfl d_TK_planAll_7 ?_
  refine g_TK_book C (List.mem_cons_of_mem _ wd_1_164) d_TK_planAll_8 ?_
  refine g_BK_size C (List.mem_cons_of_mem _ wd_1_156) d_TK_planAll_11 ?_
  refine j_icmp_ge C d_TK_planAll_14 rfl (fun c14 => ?_) (fun c14 => ?_)
  · have hf := o_it c14 hf
    have hf := Option.some.inj hf
    subst hf
    exact j_vret C Rt (Nat.zero_le _) (Nat.zero_le _) d_TK_planAll_42 ⟨rfl, rfl⟩
  · have hf := o_if c14 hf
    refine j_aload_n C 0 rfl rfl d_TK_planAll_17 ?_
    refine g_TK_taken C (List.mem_cons_of_mem _ wd_1_174) d_TK_planAll_18 ?_
    refine j_iload_n C 1 rfl rfl d_TK_planAll_21 ?_
    refine j_icmp_ge C d_TK_planAll_22 rfl (fun c22 => ?_) (fun c22 => ?_)
    · have hf := o_it c22 hf
      have hf := Option.some.inj hf
      subst hf
      exact j_vret C Rt (Nat.zero_le _) (Nat.zero_le _) d_TK_planAll_42 ⟨rfl, rfl⟩
    · have hf := o_if c22 hf
      refine j_aload_n C 0 rfl rfl d_TK_planAll_25 ?_
      refine j_iload_n C 2 rfl rfl d_TK_planAll_26 ?_
      refine j_iload_n C 1 rfl rfl d_TK_planAll_27 ?_
      refine j_aload_n C 0 rfl rfl d_TK_planAll_28 ?_
      refine g_TK_taken C (List.mem_cons_of_mem _ wd_1_174) d_TK_planAll_29 ?_
      refine j_isub C d_TK_planAll_32 ?_
      obtain ⟨σ33, h33, hf⟩ := o_b1 hf
      refine j_callV (ci := 4) (Cn := "TollLedger$Taking") (T := T_TK) (N := 13) C [.int x2, .int (x1 - (gI σ 14))] [] (m_TK_goThrough _ _ _ _ _ x2 (x1 - (gI σ 14)) σ h33) (gdV wd_2_183 wd_2_185 wp_9 wd_1_8 wc_TK_goThrough) hy_TK_goThrough rfl ⟨4, rfl⟩ rfl rfl (by decide) (by decide) (by decide) (by decide) (Nat.le_of_ble_eq_true rfl) d_TK_planAll_33 (j_kV (σ1 := σ33) ?_)
      refine j_iinc C 2 rfl (v := (x2 + 1)) (inc_p1 _) (by decide) (loc' := [(2, .int (x2 + 1)), (0, .ref (ad 4)), (1, .int x1)]) rfl d_TK_planAll_36 ?_
      refine j_goto C d_TK_planAll_39 rfl ?_
      refine j_sub [1, 2, 0] rfl ?_
      exact hk6 x1 (x2 + 1) σ33 hf
def TK_planAll_L6 : Nat → Int32 → Int32 → ST → Option (ST)
  | 0, _, _, _ => none
  | N + 1, x1, x2, σ => TK_planAll_b6 (fun x1 x2 σ => TK_planAll_L6 N x1 x2 σ) x1 x2 σ
theorem w_TK_planAll_L6 {X : JX} (C : JC X l D (ttf cs) eE b_TK_planAll "TollLedger$Taking" 3 (Cond.code y_TK_planAll b_TK_planAll 3 r_TK_planAll :: BIG) 4 96 0 0) {res : ST} (Rt : JR X (wfm ad cs) 0 0 (PV res) r_TK_planAll "planAll")  (N : Nat) (x1 : Int32) (x2 : Int32) (σ : ST) (hf : TK_planAll_L6 N x1 x2 σ = some res) : J (wfm ad cs) X 3 0 0 σ 6 [(0, .ref (ad 4)), (1, .int x1), (2, .int x2)] [] := by
  induction N generalizing x1 x2 σ with
  | zero => exact nomatch hf
  | succ N ih => exact w_TK_planAll_b6 C Rt  (fun x1 x2 σ h => ih x1 x2 σ h) x1 x2 σ hf
def TK_planAll (x1 : Int32) (σ : ST) : Option (ST) :=
  bd1 (TK_startPlan σ) fun σ1 =>
  TK_planAll_L6 FU x1 (0 : Int32) σ1
set_option maxRecDepth 100000 in
set_option maxHeartbeats 4000000 in
theorem m_TK_planAll (l : Launch) (D : va_G) (ad : Nat → Nat) (cs : Nat → ClassId) (eE : Nat × Nat) (x1 : Int32) (σ : ST) {res : ST} (hf : TK_planAll x1 σ = some res) : MS l y_TK_planAll (Cond.code y_TK_planAll b_TK_planAll 3 r_TK_planAll :: BIG) 4 96 0 0 (wfm ad cs) D (ttf cs) eE [.ref (ad 4), .int x1] σ (PV res) := by
  refine MS.of (cc := b_TK_planAll) (maxL := 3) (ret := r_TK_planAll) (by decide) rfl (Nat.le_of_ble_eq_true rfl) (loc := [(0, .ref (ad 4)), (1, .int x1)]) rfl (fun X C Rt => ?_)
  unfold TK_planAll at hf
  refine j_aload_n C 0 rfl rfl d_TK_planAll_0 ?_
  obtain ⟨σ1, h1, hf⟩ := o_b1 hf
  refine j_callV (ci := 4) (Cn := "TollLedger$Taking") (T := T_TK) (N := 13) C [] [] (m_TK_startPlan _ _ _ _ _ σ h1) (gdV wd_2_176 wd_2_178 wp_8 wd_1_8 wc_TK_startPlan) hy_TK_startPlan rfl ⟨4, rfl⟩ rfl rfl (by decide) (by decide) (by decide) (by decide) (Nat.le_of_ble_eq_true rfl) d_TK_planAll_1 (j_kV (σ1 := σ1) ?_)
  refine j_iconst C (v := 0) (by decide) d_TK_planAll_4 ?_
  refine j_istore_n C rfl (by decide) (loc' := [(2, .int (0 : Int32)), (0, .ref (ad 4)), (1, .int x1)]) rfl d_TK_planAll_5 ?_
  refine j_sub [1, 2, 0] rfl ?_
  exact w_TK_planAll_L6 C Rt  FU x1 (0 : Int32) σ1 hf
theorem d_TK_planCrossing_0 : decode b_TK_planCrossing 0 = .ok (.aload_n 0, 1) := by decide +kernel
theorem d_TK_planCrossing_1 : decode b_TK_planCrossing 1 = .ok (.invokevirtual 59, 3) := by decide +kernel
theorem d_TK_planCrossing_4 : decode b_TK_planCrossing 4 = .ok (.iconst 0, 1) := by decide +kernel
theorem d_TK_planCrossing_5 : decode b_TK_planCrossing 5 = .ok (.istore 4, 2) := by decide +kernel
theorem d_TK_planCrossing_7 : decode b_TK_planCrossing 7 = .ok (.iload 4, 2) := by decide +kernel
theorem d_TK_planCrossing_9 : decode b_TK_planCrossing 9 = .ok (.aload_n 0, 1) := by decide +kernel
theorem d_TK_planCrossing_10 : decode b_TK_planCrossing 10 = .ok (.getfield 12, 3) := by decide +kernel
theorem d_TK_planCrossing_13 : decode b_TK_planCrossing 13 = .ok (.getfield 62, 3) := by decide +kernel
theorem d_TK_planCrossing_16 : decode b_TK_planCrossing 16 = .ok (.if_icmp .ge 107, 3) := by decide +kernel
theorem d_TK_planCrossing_19 : decode b_TK_planCrossing 19 = .ok (.aload_n 0, 1) := by decide +kernel
theorem d_TK_planCrossing_20 : decode b_TK_planCrossing 20 = .ok (.getfield 65, 3) := by decide +kernel
theorem d_TK_planCrossing_23 : decode b_TK_planCrossing 23 = .ok (.iload_n 1, 1) := by decide +kernel
theorem d_TK_planCrossing_24 : decode b_TK_planCrossing 24 = .ok (.if_icmp .ge 99, 3) := by decide +kernel
theorem d_TK_planCrossing_27 : decode b_TK_planCrossing 27 = .ok (.aload_n 0, 1) := by decide +kernel
theorem d_TK_planCrossing_28 : decode b_TK_planCrossing 28 = .ok (.getfield 12, 3) := by decide +kernel
theorem d_TK_planCrossing_31 : decode b_TK_planCrossing 31 = .ok (.getfield 72, 3) := by decide +kernel
theorem d_TK_planCrossing_34 : decode b_TK_planCrossing 34 = .ok (.iload 4, 2) := by decide +kernel
theorem d_TK_planCrossing_36 : decode b_TK_planCrossing 36 = .ok (.aaload, 1) := by decide +kernel
theorem d_TK_planCrossing_37 : decode b_TK_planCrossing 37 = .ok (.astore 5, 2) := by decide +kernel
theorem d_TK_planCrossing_39 : decode b_TK_planCrossing 39 = .ok (.aload 5, 2) := by decide +kernel
theorem d_TK_planCrossing_41 : decode b_TK_planCrossing 41 = .ok (.iload_n 1, 1) := by decide +kernel
theorem d_TK_planCrossing_42 : decode b_TK_planCrossing 42 = .ok (.iload_n 2, 1) := by decide +kernel
theorem d_TK_planCrossing_43 : decode b_TK_planCrossing 43 = .ok (.invokestatic 76, 3) := by decide +kernel
theorem d_TK_planCrossing_46 : decode b_TK_planCrossing 46 = .ok (.ifCond .ne 6, 3) := by decide +kernel
theorem d_TK_planCrossing_49 : decode b_TK_planCrossing 49 = .ok (.goto 74, 3) := by decide +kernel
theorem d_TK_planCrossing_52 : decode b_TK_planCrossing 52 = .ok (.aload_n 0, 1) := by decide +kernel
theorem d_TK_planCrossing_53 : decode b_TK_planCrossing 53 = .ok (.getfield 31, 3) := by decide +kernel
theorem d_TK_planCrossing_56 : decode b_TK_planCrossing 56 = .ok (.iload_n 3, 1) := by decide +kernel
theorem d_TK_planCrossing_57 : decode b_TK_planCrossing 57 = .ok (.aload_n 0, 1) := by decide +kernel
theorem d_TK_planCrossing_58 : decode b_TK_planCrossing 58 = .ok (.getfield 80, 3) := by decide +kernel
theorem d_TK_planCrossing_61 : decode b_TK_planCrossing 61 = .ok (.isub, 1) := by decide +kernel
theorem d_TK_planCrossing_62 : decode b_TK_planCrossing 62 = .ok (.aload_n 0, 1) := by decide +kernel
theorem d_TK_planCrossing_63 : decode b_TK_planCrossing 63 = .ok (.getfield 39, 3) := by decide +kernel
theorem d_TK_planCrossing_66 : decode b_TK_planCrossing 66 = .ok (.aload_n 0, 1) := by decide +kernel
theorem d_TK_planCrossing_67 : decode b_TK_planCrossing 67 = .ok (.getfield 35, 3) := by decide +kernel
theorem d_TK_planCrossing_70 : decode b_TK_planCrossing 70 = .ok (.aload 5, 2) := by decide +kernel
theorem d_TK_planCrossing_72 : decode b_TK_planCrossing 72 = .ok (.getfield 83, 3) := by decide +kernel
theorem d_TK_planCrossing_75 : decode b_TK_planCrossing 75 = .ok (.invokevirtual 88, 3) := by decide +kernel
theorem d_TK_planCrossing_78 : decode b_TK_planCrossing 78 = .ok (.istore 6, 2) := by decide +kernel
theorem d_TK_planCrossing_80 : decode b_TK_planCrossing 80 = .ok (.aload 5, 2) := by decide +kernel
theorem d_TK_planCrossing_82 : decode b_TK_planCrossing 82 = .ok (.iload_n 2, 1) := by decide +kernel
theorem d_TK_planCrossing_83 : decode b_TK_planCrossing 83 = .ok (.aload_n 0, 1) := by decide +kernel
theorem d_TK_planCrossing_84 : decode b_TK_planCrossing 84 = .ok (.getfield 92, 3) := by decide +kernel
theorem d_TK_planCrossing_87 : decode b_TK_planCrossing 87 = .ok (.isub, 1) := by decide +kernel
theorem d_TK_planCrossing_88 : decode b_TK_planCrossing 88 = .ok (.iload 6, 2) := by decide +kernel
theorem d_TK_planCrossing_90 : decode b_TK_planCrossing 90 = .ok (.invokestatic 95, 3) := by decide +kernel
theorem d_TK_planCrossing_93 : decode b_TK_planCrossing 93 = .ok (.invokevirtual 100, 3) := by decide +kernel
theorem d_TK_planCrossing_96 : decode b_TK_planCrossing 96 = .ok (.lstore 7, 2) := by decide +kernel
theorem d_TK_planCrossing_98 : decode b_TK_planCrossing 98 = .ok (.aload_n 0, 1) := by decide +kernel
theorem d_TK_planCrossing_99 : decode b_TK_planCrossing 99 = .ok (.iload 4, 2) := by decide +kernel
theorem d_TK_planCrossing_101 : decode b_TK_planCrossing 101 = .ok (.iload_n 1, 1) := by decide +kernel
theorem d_TK_planCrossing_102 : decode b_TK_planCrossing 102 = .ok (.aload_n 0, 1) := by decide +kernel
theorem d_TK_planCrossing_103 : decode b_TK_planCrossing 103 = .ok (.getfield 65, 3) := by decide +kernel
theorem d_TK_planCrossing_106 : decode b_TK_planCrossing 106 = .ok (.isub, 1) := by decide +kernel
theorem d_TK_planCrossing_107 : decode b_TK_planCrossing 107 = .ok (.i2l, 1) := by decide +kernel
theorem d_TK_planCrossing_108 : decode b_TK_planCrossing 108 = .ok (.lload 7, 2) := by decide +kernel
theorem d_TK_planCrossing_110 : decode b_TK_planCrossing 110 = .ok (.invokestatic 104, 3) := by decide +kernel
theorem d_TK_planCrossing_113 : decode b_TK_planCrossing 113 = .ok (.l2i, 1) := by decide +kernel
theorem d_TK_planCrossing_114 : decode b_TK_planCrossing 114 = .ok (.invokevirtual 68, 3) := by decide +kernel
theorem d_TK_planCrossing_117 : decode b_TK_planCrossing 117 = .ok (.iinc 4 1, 3) := by decide +kernel
theorem d_TK_planCrossing_120 : decode b_TK_planCrossing 120 = .ok (.goto (-113), 3) := by decide +kernel
theorem d_TK_planCrossing_123 : decode b_TK_planCrossing 123 = .ok (.return_, 1) := by decide +kernel
def TK_planCrossing_b7 (kb7 : Int32 → Int32 → Int32 → Int32 → ST → Option (ST)) (x1 : Int32) (x2 : Int32) (x3 : Int32) (x4 : Int32) (σ : ST) : Option (ST) :=
  if (gI σ 9) ≤ x4 then (some σ)
  else (if x1 ≤ (gI σ 14) then (some σ)
  else (if x4 < 0 ∨ 12 ≤ x4.toNatClampNeg then none else
  bd1 (gR σ 1 x4.toNatClampNeg) fun q36 =>
  bd1 (TK_isCrossed q36 x1 x2 σ) fun r43 =>
  if r43 = 0 then (some σ)
  else (if ¬ (q36 ∈ pL σ ∧ pK σ q36 = 2) then none else
  bd1 (ST_mostMovable (x3 - (gI σ 16)) (gI σ 11) (gI σ 10) (pP σ q36 1) σ) fun r75 =>
  bd1 (OF_mostFor q36 (imin (x2 - (gI σ 15)) r75) σ) fun r93 =>
  bd1 (TK_goThrough x4 ((lmin ((x1 - (gI σ 14)).toInt64) r93).toInt32) σ) fun σ114 =>
  kb7 x1 x2 x3 (x4 + 1) σ114)))
set_option maxRecDepth 100000 in
set_option maxHeartbeats 4000000 in
theorem w_TK_planCrossing_b7 {X : JX} (C : JC X l D (ttf cs) eE b_TK_planCrossing "TollLedger$Taking" 9 (Cond.code y_TK_planCrossing b_TK_planCrossing 9 r_TK_planCrossing :: BIG) 4 96 0 0) {res : ST} (Rt : JR X (wfm ad cs) 0 0 (PV res) r_TK_planCrossing "planCrossing") {kb7 : Int32 → Int32 → Int32 → Int32 → ST → Option (ST)} (hk7 : ∀ (x1 : Int32) (x2 : Int32) (x3 : Int32) (x4 : Int32) (σ : ST), kb7 x1 x2 x3 x4 σ = some res → J (wfm ad cs) X 9 0 0 σ 7 [(0, .ref (ad 4)), (1, .int x1), (2, .int x2), (3, .int x3), (4, .int x4)] []) (x1 : Int32) (x2 : Int32) (x3 : Int32) (x4 : Int32) (σ : ST) (hf : TK_planCrossing_b7 kb7 x1 x2 x3 x4 σ = some res) : J (wfm ad cs) X 9 0 0 σ 7 [(0, .ref (ad 4)), (1, .int x1), (2, .int x2), (3, .int x3), (4, .int x4)] [] := by
  unfold TK_planCrossing_b7 at hf
  refine j_iload C 4 rfl d_TK_planCrossing_7 ?_
  refine j_aload_n C 0 rfl rfl d_TK_planCrossing_9 ?_
  refine g_TK_book C (List.mem_cons_of_mem _ wd_1_164) d_TK_planCrossing_10 ?_
  refine g_BK_size C (List.mem_cons_of_mem _ wd_1_156) d_TK_planCrossing_13 ?_
  refine j_icmp_ge C d_TK_planCrossing_16 rfl (fun c16 => ?_) (fun c16 => ?_)
  · have hf := o_it c16 hf
    have hf := Option.some.inj hf
    subst hf
    exact j_vret C Rt (Nat.zero_le _) (Nat.zero_le _) d_TK_planCrossing_123 ⟨rfl, rfl⟩
  · have hf := o_if c16 hf
    refine j_aload_n C 0 rfl rfl d_TK_planCrossing_19 ?_
    refine g_TK_taken C (List.mem_cons_of_mem _ wd_1_174) d_TK_planCrossing_20 ?_
    refine j_iload_n C 1 rfl rfl d_TK_planCrossing_23 ?_
    refine j_icmp_ge C d_TK_planCrossing_24 rfl (fun c24 => ?_) (fun c24 => ?_)
    · have hf := o_it c24 hf
      have hf := Option.some.inj hf
      subst hf
      exact j_vret C Rt (Nat.zero_le _) (Nat.zero_le _) d_TK_planCrossing_123 ⟨rfl, rfl⟩
    · have hf := o_if c24 hf
      refine j_aload_n C 0 rfl rfl d_TK_planCrossing_27 ?_
      refine g_TK_book C (List.mem_cons_of_mem _ wd_1_164) d_TK_planCrossing_28 ?_
      refine g_BK_row C (List.mem_cons_of_mem _ wd_1_153) d_TK_planCrossing_31 ?_
      refine j_iload C 4 rfl d_TK_planCrossing_34 ?_
      obtain ⟨g36, hf⟩ := o_gn hf
      obtain ⟨q36, hq36, hf⟩ := o_b1 hf
      refine la_row C g36 hq36 d_TK_planCrossing_36 ?_
      refine j_astore C (by decide) (loc' := [(5, .ref q36), (0, .ref (ad 4)), (1, .int x1), (2, .int x2), (3, .int x3), (4, .int x4)]) rfl d_TK_planCrossing_37 ?_
      refine j_aload C 0 rfl d_TK_planCrossing_39 ?_
      refine j_iload_n C 2 rfl rfl d_TK_planCrossing_41 ?_
      refine j_iload_n C 3 rfl rfl d_TK_planCrossing_42 ?_
      obtain ⟨r43, h43, hf⟩ := o_b1 hf
      refine j_callS C [.ref q36, .int x1, .int x2] [] (m_TK_isCrossed _ _ _ _ _ q36 x1 x2 σ h43) (gdS wd_2_223 wd_2_224 wd_1_8 wc_TK_isCrossed) hy_TK_isCrossed rfl rfl (by decide) (by decide) (by decide) (by decide) (Nat.le_of_ble_eq_true rfl) d_TK_planCrossing_43 (j_kI (r := r43) (σ1 := σ) ?_)
      refine j_if_ne C d_TK_planCrossing_46 rfl (fun c46 => ?_) (fun c46 => ?_)
      · have hf := o_if c46 hf
        refine j_aload_n C 1 rfl rfl d_TK_planCrossing_52 ?_
        refine g_TK_state C (List.mem_cons_of_mem _ wd_1_163) d_TK_planCrossing_53 ?_
        refine j_iload_n C 4 rfl rfl d_TK_planCrossing_56 ?_
        refine j_aload_n C 1 rfl rfl d_TK_planCrossing_57 ?_
        refine g_TK_cost C (List.mem_cons_of_mem _ wd_1_178) d_TK_planCrossing_58 ?_
        refine j_isub C d_TK_planCrossing_61 ?_
        refine j_aload_n C 1 rfl rfl d_TK_planCrossing_62 ?_
        refine g_TK_paid C (List.mem_cons_of_mem _ wd_1_171) d_TK_planCrossing_63 ?_
        refine j_aload_n C 1 rfl rfl d_TK_planCrossing_66 ?_
        refine g_TK_taker C (List.mem_cons_of_mem _ wd_1_170) d_TK_planCrossing_67 ?_
        refine j_aload C 0 rfl d_TK_planCrossing_70 ?_
        obtain ⟨g72, hf⟩ := o_gn hf
        refine gp_Offer_owner C (Decidable.not_not.mp g72) (List.mem_cons_of_mem _ wd_3_16) d_TK_planCrossing_72 ?_
        obtain ⟨r75, h75, hf⟩ := o_b1 hf
        refine j_callV (ci := 1) (Cn := "TollLedger$State") (T := T_ST) (N := 6) C [.int (x3 - (gI σ 16)), .int (gI σ 11), .int (gI σ 10), .int (pP σ q36 1)] [] (m_ST_mostMovable _ _ _ _ _ (x3 - (gI σ 16)) (gI σ 11) (gI σ 10) (pP σ q36 1) σ h75) (gdV wd_2_187 wd_2_188 wd_2_189 wd_1_2 wc_ST_mostMovable) hy_ST_mostMovable rfl ⟨1, rfl⟩ rfl rfl (by decide) (by decide) (by decide) (by decide) (Nat.le_of_ble_eq_true rfl) d_TK_planCrossing_75 (j_kI (r := r75) (σ1 := σ) ?_)
        refine j_istore C (by decide) (loc' := [(6, .int r75), (5, .ref q36), (0, .ref (ad 4)), (1, .int x1), (2, .int x2), (3, .int x3), (4, .int x4)]) rfl d_TK_planCrossing_78 ?_
        refine j_aload C 1 rfl d_TK_planCrossing_80 ?_
        refine j_iload_n C 4 rfl rfl d_TK_planCrossing_82 ?_
        refine j_aload_n C 2 rfl rfl d_TK_planCrossing_83 ?_
        refine g_TK_price C (List.mem_cons_of_mem _ wd_1_176) d_TK_planCrossing_84 ?_
        refine j_isub C d_TK_planCrossing_87 ?_
        refine j_iload C 0 rfl d_TK_planCrossing_88 ?_
        refine j_mmin C (List.mem_cons_of_mem _ wd_2_191) (List.mem_cons_of_mem _ wd_2_142) (List.mem_cons_of_mem _ wd_1_14) (List.mem_cons_of_mem _ wm_min) (by decide) (Nat.le_of_ble_eq_true rfl) (by decide) (by decide) d_TK_planCrossing_90 ?_
        obtain ⟨r93, h93, hf⟩ := o_b1 hf
        refine j_callV (ci := 7) (Cn := "TollLedger$Offer") (T := T_OF) (N := 6) C [.int (imin (x2 - (gI σ 15)) r75)] [] (m_OF_mostFor _ _ _ _ _ q36 (imin (x2 - (gI σ 15)) r75) σ h93) (gdV wd_2_226 wd_2_227 wd_2_228 wd_1_16 wc_OF_mostFor) hy_OF_mostFor rfl (rdp2 (Decidable.not_not.mp g72)) rfl rfl (by decide) (by decide) (by decide) (by decide) (Nat.le_of_ble_eq_true rfl) d_TK_planCrossing_93 (j_kL (r := r93) (σ1 := σ) ?_)
        refine j_lstore C (by decide) (loc' := [(7, .long r93), (6, .int r75), (5, .ref q36), (0, .ref (ad 4)), (1, .int x1), (2, .int x2), (3, .int x3), (4, .int x4)]) rfl d_TK_planCrossing_96 ?_
        refine j_aload_n C 3 rfl rfl d_TK_planCrossing_98 ?_
        refine j_iload C 7 rfl d_TK_planCrossing_99 ?_
        refine j_iload_n C 4 rfl rfl d_TK_planCrossing_101 ?_
        refine j_aload_n C 3 rfl rfl d_TK_planCrossing_102 ?_
        refine g_TK_taken C (List.mem_cons_of_mem _ wd_1_174) d_TK_planCrossing_103 ?_
        refine j_isub C d_TK_planCrossing_106 ?_
        refine j_i2l C d_TK_planCrossing_107 ?_
        refine j_lload C 0 rfl d_TK_planCrossing_108 ?_
        refine j_mmin_long C (List.mem_cons_of_mem _ wd_2_230) (List.mem_cons_of_mem _ wd_2_231) (List.mem_cons_of_mem _ wd_1_14) (List.mem_cons_of_mem _ wm_minL) (by decide) (Nat.le_of_ble_eq_true rfl) (by decide) (by decide) d_TK_planCrossing_110 ?_
        refine j_l2i C d_TK_planCrossing_113 ?_
        obtain ⟨σ114, h114, hf⟩ := o_b1 hf
        refine j_callV (ci := 4) (Cn := "TollLedger$Taking") (T := T_TK) (N := 13) C [.int x4, .int (lmin ((x1 - (gI σ 14)).toInt64) r93).toInt32] [] (m_TK_goThrough _ _ _ _ _ x4 ((lmin ((x1 - (gI σ 14)).toInt64) r93).toInt32) σ h114) (gdV wd_2_183 wd_2_185 wp_9 wd_1_8 wc_TK_goThrough) hy_TK_goThrough rfl ⟨4, rfl⟩ rfl rfl (by decide) (by decide) (by decide) (by decide) (Nat.le_of_ble_eq_true rfl) d_TK_planCrossing_114 (j_kV (σ1 := σ114) ?_)
        refine j_iinc C 7 rfl (v := (x4 + 1)) (inc_p1 _) (by decide) (loc' := [(4, .int (x4 + 1)), (7, .long r93), (6, .int r75), (5, .ref q36), (0, .ref (ad 4)), (1, .int x1), (2, .int x2), (3, .int x3)]) rfl d_TK_planCrossing_117 ?_
        refine j_goto C d_TK_planCrossing_120 rfl ?_
        refine j_sub [4, 5, 6, 7, 0] rfl ?_
        exact hk7 x1 x2 x3 (x4 + 1) σ114 hf
      · have hf := o_it c46 hf
        refine j_goto C d_TK_planCrossing_49 rfl ?_
        have hf := Option.some.inj hf
        subst hf
        exact j_vret C Rt (Nat.zero_le _) (Nat.zero_le _) d_TK_planCrossing_123 ⟨rfl, rfl⟩
def TK_planCrossing_L7 : Nat → Int32 → Int32 → Int32 → Int32 → ST → Option (ST)
  | 0, _, _, _, _, _ => none
  | N + 1, x1, x2, x3, x4, σ => TK_planCrossing_b7 (fun x1 x2 x3 x4 σ => TK_planCrossing_L7 N x1 x2 x3 x4 σ) x1 x2 x3 x4 σ
theorem w_TK_planCrossing_L7 {X : JX} (C : JC X l D (ttf cs) eE b_TK_planCrossing "TollLedger$Taking" 9 (Cond.code y_TK_planCrossing b_TK_planCrossing 9 r_TK_planCrossing :: BIG) 4 96 0 0) {res : ST} (Rt : JR X (wfm ad cs) 0 0 (PV res) r_TK_planCrossing "planCrossing")  (N : Nat) (x1 : Int32) (x2 : Int32) (x3 : Int32) (x4 : Int32) (σ : ST) (hf : TK_planCrossing_L7 N x1 x2 x3 x4 σ = some res) : J (wfm ad cs) X 9 0 0 σ 7 [(0, .ref (ad 4)), (1, .int x1), (2, .int x2), (3, .int x3), (4, .int x4)] [] := by
  induction N generalizing x1 x2 x3 x4 σ with
  | zero => exact nomatch hf
  | succ N ih => exact w_TK_planCrossing_b7 C Rt  (fun x1 x2 x3 x4 σ h => ih x1 x2 x3 x4 σ h) x1 x2 x3 x4 σ hf
def TK_planCrossing (x1 : Int32) (x2 : Int32) (x3 : Int32) (σ : ST) : Option (ST) :=
  bd1 (TK_startPlan σ) fun σ1 =>
  TK_planCrossing_L7 FU x1 x2 x3 (0 : Int32) σ1
set_option maxRecDepth 100000 in
set_option maxHeartbeats 4000000 in
theorem m_TK_planCrossing (l : Launch) (D : va_G) (ad : Nat → Nat) (cs : Nat → ClassId) (eE : Nat × Nat) (x1 : Int32) (x2 : Int32) (x3 : Int32) (σ : ST) {res : ST} (hf : TK_planCrossing x1 x2 x3 σ = some res) : MS l y_TK_planCrossing (Cond.code y_TK_planCrossing b_TK_planCrossing 9 r_TK_planCrossing :: BIG) 4 96 0 0 (wfm ad cs) D (ttf cs) eE [.ref (ad 4), .int x1, .int x2, .int x3] σ (PV res) := by
  refine MS.of (cc := b_TK_planCrossing) (maxL := 9) (ret := r_TK_planCrossing) (by decide) rfl (Nat.le_of_ble_eq_true rfl) (loc := [(0, .ref (ad 4)), (1, .int x1), (2, .int x2), (3, .int x3)]) rfl (fun X C Rt => ?_)
  unfold TK_planCrossing at hf
  refine j_aload_n C 0 rfl rfl d_TK_planCrossing_0 ?_
  obtain ⟨σ1, h1, hf⟩ := o_b1 hf
  refine j_callV (ci := 4) (Cn := "TollLedger$Taking") (T := T_TK) (N := 13) C [] [] (m_TK_startPlan _ _ _ _ _ σ h1) (gdV wd_2_176 wd_2_178 wp_8 wd_1_8 wc_TK_startPlan) hy_TK_startPlan rfl ⟨4, rfl⟩ rfl rfl (by decide) (by decide) (by decide) (by decide) (Nat.le_of_ble_eq_true rfl) d_TK_planCrossing_1 (j_kV (σ1 := σ1) ?_)
  refine j_iconst C (v := 0) (by decide) d_TK_planCrossing_4 ?_
  refine j_istore C (by decide) (loc' := [(4, .int (0 : Int32)), (0, .ref (ad 4)), (1, .int x1), (2, .int x2), (3, .int x3)]) rfl d_TK_planCrossing_5 ?_
  refine j_sub [1, 2, 3, 4, 0] rfl ?_
  exact w_TK_planCrossing_L7 C Rt  FU x1 x2 x3 (0 : Int32) σ1 hf
theorem d_TL_isWithin_0 : decode b_TL_isWithin 0 = .ok (.iload_n 0, 1) := by decide +kernel
theorem d_TL_isWithin_1 : decode b_TL_isWithin 1 = .ok (.iload_n 1, 1) := by decide +kernel
theorem d_TL_isWithin_2 : decode b_TL_isWithin 2 = .ok (.if_icmp .lt 12, 3) := by decide +kernel
theorem d_TL_isWithin_5 : decode b_TL_isWithin 5 = .ok (.iload_n 0, 1) := by decide +kernel
theorem d_TL_isWithin_6 : decode b_TL_isWithin 6 = .ok (.iload_n 2, 1) := by decide +kernel
theorem d_TL_isWithin_7 : decode b_TL_isWithin 7 = .ok (.if_icmp .gt 7, 3) := by decide +kernel
theorem d_TL_isWithin_10 : decode b_TL_isWithin 10 = .ok (.iconst 1, 1) := by decide +kernel
theorem d_TL_isWithin_11 : decode b_TL_isWithin 11 = .ok (.goto 4, 3) := by decide +kernel
theorem d_TL_isWithin_14 : decode b_TL_isWithin 14 = .ok (.iconst 0, 1) := by decide +kernel
theorem d_TL_isWithin_15 : decode b_TL_isWithin 15 = .ok (.ireturn, 1) := by decide +kernel
def TL_isWithin (x0 : Int32) (x1 : Int32) (x2 : Int32) : Option (Int32) :=
  if x0 < x1 then (some (0 : Int32))
  else (if x2 < x0 then (some (0 : Int32))
  else (some (1 : Int32)))
set_option maxRecDepth 100000 in
set_option maxHeartbeats 4000000 in
theorem m_TL_isWithin (l : Launch) (D : va_G) (ad : Nat → Nat) (cs : Nat → ClassId) (eE : Nat × Nat) (x0 : Int32) (x1 : Int32) (x2 : Int32) (σ : ST) {res : Int32} (hf : TL_isWithin x0 x1 x2 = some res) : MS l y_TL_isWithin (Cond.code y_TL_isWithin b_TL_isWithin 3 r_TL_isWithin :: BIG) 0 0 0 0 (wfm ad cs) D (ttf cs) eE [.int x0, .int x1, .int x2] σ (PI res σ) := by
  refine MS.of (cc := b_TL_isWithin) (maxL := 3) (ret := r_TL_isWithin) (by decide) rfl (Nat.le_of_ble_eq_true rfl) (loc := [(0, .int x0), (1, .int x1), (2, .int x2)]) rfl (fun X C Rt => ?_)
  unfold TL_isWithin at hf
  refine j_iload_n C 0 rfl rfl d_TL_isWithin_0 ?_
  refine j_iload_n C 1 rfl rfl d_TL_isWithin_1 ?_
  refine j_icmp_lt C d_TL_isWithin_2 rfl (fun c2 => ?_) (fun c2 => ?_)
  · have hf := o_it c2 hf
    refine j_iconst C (v := 0) (by decide) d_TL_isWithin_14 ?_
    have hf := Option.some.inj hf
    subst hf
    exact j_zret C Rt (by decide) (Nat.zero_le _) (Nat.zero_le _) d_TL_isWithin_15 ⟨rfl, rfl⟩
  · have hf := o_if c2 hf
    refine j_iload_n C 0 rfl rfl d_TL_isWithin_5 ?_
    refine j_iload_n C 2 rfl rfl d_TL_isWithin_6 ?_
    refine j_icmp_gt C d_TL_isWithin_7 rfl (fun c7 => ?_) (fun c7 => ?_)
    · have hf := o_it c7 hf
      refine j_iconst C (v := 0) (by decide) d_TL_isWithin_14 ?_
      have hf := Option.some.inj hf
      subst hf
      exact j_zret C Rt (by decide) (Nat.zero_le _) (Nat.zero_le _) d_TL_isWithin_15 ⟨rfl, rfl⟩
    · have hf := o_if c7 hf
      refine j_iconst C (v := 1) (by decide) d_TL_isWithin_10 ?_
      refine j_goto C d_TL_isWithin_11 rfl ?_
      have hf := Option.some.inj hf
      subst hf
      exact j_zret C Rt (by decide) (Nat.zero_le _) (Nat.zero_le _) d_TL_isWithin_15 ⟨rfl, rfl⟩
theorem d_TL_isAccount_0 : decode b_TL_isAccount 0 = .ok (.iload_n 0, 1) := by decide +kernel
theorem d_TL_isAccount_1 : decode b_TL_isAccount 1 = .ok (.iconst 0, 1) := by decide +kernel
theorem d_TL_isAccount_2 : decode b_TL_isAccount 2 = .ok (.iconst 5, 1) := by decide +kernel
theorem d_TL_isAccount_3 : decode b_TL_isAccount 3 = .ok (.invokestatic 47, 3) := by decide +kernel
theorem d_TL_isAccount_6 : decode b_TL_isAccount 6 = .ok (.ireturn, 1) := by decide +kernel
def TL_isAccount (x0 : Int32) : Option (Int32) :=
  bd1 (TL_isWithin x0 (0 : Int32) (5 : Int32)) fun r3 =>
  if ¬ (r3 = 0 ∨ r3 = 1) then none else
  some r3
set_option maxRecDepth 100000 in
set_option maxHeartbeats 4000000 in
theorem m_TL_isAccount (l : Launch) (D : va_G) (ad : Nat → Nat) (cs : Nat → ClassId) (eE : Nat × Nat) (x0 : Int32) (σ : ST) {res : Int32} (hf : TL_isAccount x0 = some res) : MS l y_TL_isAccount (Cond.code y_TL_isAccount b_TL_isAccount 1 r_TL_isAccount :: BIG) 1 22 0 0 (wfm ad cs) D (ttf cs) eE [.int x0] σ (PI res σ) := by
  refine MS.of (cc := b_TL_isAccount) (maxL := 1) (ret := r_TL_isAccount) (by decide) rfl (Nat.le_of_ble_eq_true rfl) (loc := [(0, .int x0)]) rfl (fun X C Rt => ?_)
  unfold TL_isAccount at hf
  refine j_iload_n C 0 rfl rfl d_TL_isAccount_0 ?_
  refine j_iconst C (v := 0) (by decide) d_TL_isAccount_1 ?_
  refine j_iconst C (v := 5) (by decide) d_TL_isAccount_2 ?_
  obtain ⟨r3, h3, hf⟩ := o_b1 hf
  refine j_callS C [.int x0, .int (0 : Int32), .int (5 : Int32)] [] (m_TL_isWithin _ _ _ _ _ x0 (0 : Int32) (5 : Int32) σ h3) (gdS wd_2_16 wd_2_17 wd_1_1 wc_TL_isWithin) hy_TL_isWithin rfl rfl (by decide) (by decide) (by decide) (by decide) (Nat.le_of_ble_eq_true rfl) d_TL_isAccount_3 (j_kI (r := r3) (σ1 := σ) ?_)
  obtain ⟨g6, hf⟩ := o_gn hf
  have hf := Option.some.inj hf
  subst hf
  exact j_zret C Rt (Decidable.not_not.mp g6) (Nat.zero_le _) (Nat.zero_le _) d_TL_isAccount_6 ⟨rfl, rfl⟩
theorem d_TL_account_0 : decode b_TL_account 0 = .ok (.iload_n 1, 1) := by decide +kernel
theorem d_TL_account_1 : decode b_TL_account 1 = .ok (.invokestatic 43, 3) := by decide +kernel
theorem d_TL_account_4 : decode b_TL_account 4 = .ok (.ifCond .eq 18, 3) := by decide +kernel
theorem d_TL_account_7 : decode b_TL_account 7 = .ok (.aload_n 0, 1) := by decide +kernel
theorem d_TL_account_8 : decode b_TL_account 8 = .ok (.getfield 10, 3) := by decide +kernel
theorem d_TL_account_11 : decode b_TL_account 11 = .ok (.getfield 61, 3) := by decide +kernel
theorem d_TL_account_14 : decode b_TL_account 14 = .ok (.iload_n 1, 1) := by decide +kernel
theorem d_TL_account_15 : decode b_TL_account 15 = .ok (.aaload, 1) := by decide +kernel
theorem d_TL_account_16 : decode b_TL_account 16 = .ok (.getfield 65, 3) := by decide +kernel
theorem d_TL_account_19 : decode b_TL_account 19 = .ok (.ifCond .ne 5, 3) := by decide +kernel
theorem d_TL_account_22 : decode b_TL_account 22 = .ok (.iconst (-1), 1) := by decide +kernel
theorem d_TL_account_23 : decode b_TL_account 23 = .ok (.ireturn, 1) := by decide +kernel
theorem d_TL_account_24 : decode b_TL_account 24 = .ok (.iload_n 2, 1) := by decide +kernel
theorem d_TL_account_25 : decode b_TL_account 25 = .ok (.tableswitch 79 0 3 #[31, 44, 57, 70], 31) := by decide +kernel
theorem d_TL_account_56 : decode b_TL_account 56 = .ok (.aload_n 0, 1) := by decide +kernel
theorem d_TL_account_57 : decode b_TL_account 57 = .ok (.getfield 10, 3) := by decide +kernel
theorem d_TL_account_60 : decode b_TL_account 60 = .ok (.getfield 61, 3) := by decide +kernel
theorem d_TL_account_63 : decode b_TL_account 63 = .ok (.iload_n 1, 1) := by decide +kernel
theorem d_TL_account_64 : decode b_TL_account 64 = .ok (.aaload, 1) := by decide +kernel
theorem d_TL_account_65 : decode b_TL_account 65 = .ok (.getfield 212, 3) := by decide +kernel
theorem d_TL_account_68 : decode b_TL_account 68 = .ok (.ireturn, 1) := by decide +kernel
theorem d_TL_account_69 : decode b_TL_account 69 = .ok (.aload_n 0, 1) := by decide +kernel
theorem d_TL_account_70 : decode b_TL_account 70 = .ok (.getfield 10, 3) := by decide +kernel
theorem d_TL_account_73 : decode b_TL_account 73 = .ok (.getfield 61, 3) := by decide +kernel
theorem d_TL_account_76 : decode b_TL_account 76 = .ok (.iload_n 1, 1) := by decide +kernel
theorem d_TL_account_77 : decode b_TL_account 77 = .ok (.aaload, 1) := by decide +kernel
theorem d_TL_account_78 : decode b_TL_account 78 = .ok (.getfield 213, 3) := by decide +kernel
theorem d_TL_account_81 : decode b_TL_account 81 = .ok (.ireturn, 1) := by decide +kernel
theorem d_TL_account_82 : decode b_TL_account 82 = .ok (.aload_n 0, 1) := by decide +kernel
theorem d_TL_account_83 : decode b_TL_account 83 = .ok (.getfield 10, 3) := by decide +kernel
theorem d_TL_account_86 : decode b_TL_account 86 = .ok (.getfield 61, 3) := by decide +kernel
theorem d_TL_account_89 : decode b_TL_account 89 = .ok (.iload_n 1, 1) := by decide +kernel
theorem d_TL_account_90 : decode b_TL_account 90 = .ok (.aaload, 1) := by decide +kernel
theorem d_TL_account_91 : decode b_TL_account 91 = .ok (.getfield 108, 3) := by decide +kernel
theorem d_TL_account_94 : decode b_TL_account 94 = .ok (.ireturn, 1) := by decide +kernel
theorem d_TL_account_95 : decode b_TL_account 95 = .ok (.aload_n 0, 1) := by decide +kernel
theorem d_TL_account_96 : decode b_TL_account 96 = .ok (.getfield 10, 3) := by decide +kernel
theorem d_TL_account_99 : decode b_TL_account 99 = .ok (.iload_n 1, 1) := by decide +kernel
theorem d_TL_account_100 : decode b_TL_account 100 = .ok (.invokevirtual 216, 3) := by decide +kernel
theorem d_TL_account_103 : decode b_TL_account 103 = .ok (.ireturn, 1) := by decide +kernel
theorem d_TL_account_104 : decode b_TL_account 104 = .ok (.iconst (-1), 1) := by decide +kernel
theorem d_TL_account_105 : decode b_TL_account 105 = .ok (.ireturn, 1) := by decide +kernel
def TL_account (x1 : Int32) (x2 : Int32) (σ : ST) : Option (Int32) :=
  bd1 (TL_isAccount x1) fun r1 =>
  if r1 = 0 then (some (-1 : Int32))
  else (if x1 < 0 ∨ 6 ≤ x1.toNatClampNeg then none else
  bd1 (gR σ 0 x1.toNatClampNeg) fun q15 =>
  if ¬ (q15 ∈ pL σ ∧ pK σ q15 = 1) then none else
  if (pP σ q15 0) = 0 then (some (-1 : Int32))
  else (if x2.toInt < 0 ∨ 3 < x2.toInt then (some (-1 : Int32))
  else (if x2 = 0 then (bd1 (gR σ 0 x1.toNatClampNeg) fun q64 =>
  if ¬ (q64 ∈ pL σ ∧ pK σ q64 = 1) then none else
  some (pP σ q64 1))
  else (if x2 = 1 then (bd1 (gR σ 0 x1.toNatClampNeg) fun q77 =>
  if ¬ (q77 ∈ pL σ ∧ pK σ q77 = 1) then none else
  some (pP σ q77 2))
  else (if x2 = 2 then (bd1 (gR σ 0 x1.toNatClampNeg) fun q90 =>
  if ¬ (q90 ∈ pL σ ∧ pK σ q90 = 1) then none else
  some (pP σ q90 3))
  else (if x2 = 3 then (bd1 (ST_piecesOf x1 σ) fun r100 =>
  some r100)
  else (none)))))))
set_option maxRecDepth 100000 in
set_option maxHeartbeats 4000000 in
theorem m_TL_account (l : Launch) (D : va_G) (ad : Nat → Nat) (cs : Nat → ClassId) (eE : Nat × Nat) (x1 : Int32) (x2 : Int32) (σ : ST) {res : Int32} (hf : TL_account x1 x2 σ = some res) : MS l y_TL_account (Cond.code y_TL_account b_TL_account 3 r_TL_account :: BIG) 4 87 0 0 (wfm ad cs) D (ttf cs) eE [.ref (ad 0), .int x1, .int x2] σ (PI res σ) := by
  refine MS.of (cc := b_TL_account) (maxL := 3) (ret := r_TL_account) (by decide) rfl (Nat.le_of_ble_eq_true rfl) (loc := [(0, .ref (ad 0)), (1, .int x1), (2, .int x2)]) rfl (fun X C Rt => ?_)
  unfold TL_account at hf
  refine j_iload_n C 1 rfl rfl d_TL_account_0 ?_
  obtain ⟨r1, h1, hf⟩ := o_b1 hf
  refine j_callS C [.int x1] [] (m_TL_isAccount _ _ _ _ _ x1 σ h1) (gdS wd_2_13 wd_2_14 wd_1_1 wc_TL_isAccount) hy_TL_isAccount rfl rfl (by decide) (by decide) (by decide) (by decide) (Nat.le_of_ble_eq_true rfl) d_TL_account_1 (j_kI (r := r1) (σ1 := σ) ?_)
  refine j_if_eq C d_TL_account_4 rfl (fun c4 => ?_) (fun c4 => ?_)
  · have hf := o_it c4 hf
    refine j_iconst C (v := -1) (by decide) d_TL_account_22 ?_
    have hf := Option.some.inj hf
    subst hf
    exact j_iret C Rt (Nat.zero_le _) (Nat.zero_le _) d_TL_account_23 ⟨rfl, rfl⟩
  · have hf := o_if c4 hf
    refine j_aload_n C 0 rfl rfl d_TL_account_7 ?_
    refine g_TL_state C (List.mem_cons_of_mem _ wd_1_218) d_TL_account_8 ?_
    refine g_ST_accounts C (List.mem_cons_of_mem _ wd_1_112) d_TL_account_11 ?_
    refine j_iload_n C 1 rfl rfl d_TL_account_14 ?_
    obtain ⟨g15, hf⟩ := o_gn hf
    obtain ⟨q15, hq15, hf⟩ := o_b1 hf
    refine la_acc C g15 hq15 d_TL_account_15 ?_
    obtain ⟨g16, hf⟩ := o_gn hf
    refine gp_Account_exists C (Decidable.not_not.mp g16) (List.mem_cons_of_mem _ wd_1_91) d_TL_account_16 ?_
    refine j_if_ne C d_TL_account_19 rfl (fun c19 => ?_) (fun c19 => ?_)
    · have hf := o_if c19 hf
      refine j_iload_n C 2 rfl rfl d_TL_account_24 ?_
      by_cases c25 : x2.toInt < 0 ∨ 3 < x2.toInt
      · have hf := o_it c25 hf
        refine j_tableOut C d_TL_account_25 c25 rfl ?_
        refine j_iconst C (v := -1) (by decide) d_TL_account_104 ?_
        have hf := Option.some.inj hf
        subst hf
        exact j_iret C Rt (Nat.zero_le _) (Nat.zero_le _) d_TL_account_105 ⟨rfl, rfl⟩
      have hf := o_if c25 hf
      by_cases c25_0 : x2 = 0
      · have hf := o_it c25_0 hf
        refine j_tableIn C d_TL_account_25 (by rw [c25_0]; decide) (by rw [c25_0]; decide) (by rw [c25_0]; rfl) rfl ?_
        refine j_aload_n C 0 rfl rfl d_TL_account_56 ?_
        refine g_TL_state C (List.mem_cons_of_mem _ wd_1_218) d_TL_account_57 ?_
        refine g_ST_accounts C (List.mem_cons_of_mem _ wd_1_112) d_TL_account_60 ?_
        refine j_iload_n C 1 rfl rfl d_TL_account_63 ?_
        obtain ⟨q64, hq64, hf⟩ := o_b1 hf
        refine la_acc C g15 hq64 d_TL_account_64 ?_
        obtain ⟨g65, hf⟩ := o_gn hf
        refine gp_Account_coins C (Decidable.not_not.mp g65) (List.mem_cons_of_mem _ wd_1_94) d_TL_account_65 ?_
        have hf := Option.some.inj hf
        subst hf
        exact j_iret C Rt (Nat.zero_le _) (Nat.zero_le _) d_TL_account_68 ⟨rfl, rfl⟩
      have hf := o_if c25_0 hf
      by_cases c25_1 : x2 = 1
      · have hf := o_it c25_1 hf
        refine j_tableIn C d_TL_account_25 (by rw [c25_1]; decide) (by rw [c25_1]; decide) (by rw [c25_1]; rfl) rfl ?_
        refine j_aload_n C 0 rfl rfl d_TL_account_69 ?_
        refine g_TL_state C (List.mem_cons_of_mem _ wd_1_218) d_TL_account_70 ?_
        refine g_ST_accounts C (List.mem_cons_of_mem _ wd_1_112) d_TL_account_73 ?_
        refine j_iload_n C 1 rfl rfl d_TL_account_76 ?_
        obtain ⟨q77, hq77, hf⟩ := o_b1 hf
        refine la_acc C g15 hq77 d_TL_account_77 ?_
        obtain ⟨g78, hf⟩ := o_gn hf
        refine gp_Account_number C (Decidable.not_not.mp g78) (List.mem_cons_of_mem _ wd_1_96) d_TL_account_78 ?_
        have hf := Option.some.inj hf
        subst hf
        exact j_iret C Rt (Nat.zero_le _) (Nat.zero_le _) d_TL_account_81 ⟨rfl, rfl⟩
      have hf := o_if c25_1 hf
      by_cases c25_2 : x2 = 2
      · have hf := o_it c25_2 hf
        refine j_tableIn C d_TL_account_25 (by rw [c25_2]; decide) (by rw [c25_2]; decide) (by rw [c25_2]; rfl) rfl ?_
        refine j_aload_n C 0 rfl rfl d_TL_account_82 ?_
        refine g_TL_state C (List.mem_cons_of_mem _ wd_1_218) d_TL_account_83 ?_
        refine g_ST_accounts C (List.mem_cons_of_mem _ wd_1_112) d_TL_account_86 ?_
        refine j_iload_n C 1 rfl rfl d_TL_account_89 ?_
        obtain ⟨q90, hq90, hf⟩ := o_b1 hf
        refine la_acc C g15 hq90 d_TL_account_90 ?_
        obtain ⟨g91, hf⟩ := o_gn hf
        refine gp_Account_rate C (Decidable.not_not.mp g91) (List.mem_cons_of_mem _ wd_1_98) d_TL_account_91 ?_
        have hf := Option.some.inj hf
        subst hf
        exact j_iret C Rt (Nat.zero_le _) (Nat.zero_le _) d_TL_account_94 ⟨rfl, rfl⟩
      have hf := o_if c25_2 hf
      by_cases c25_3 : x2 = 3
      · have hf := o_it c25_3 hf
        refine j_tableIn C d_TL_account_25 (by rw [c25_3]; decide) (by rw [c25_3]; decide) (by rw [c25_3]; rfl) rfl ?_
        refine j_aload_n C 0 rfl rfl d_TL_account_95 ?_
        refine g_TL_state C (List.mem_cons_of_mem _ wd_1_218) d_TL_account_96 ?_
        refine j_iload_n C 1 rfl rfl d_TL_account_99 ?_
        obtain ⟨r100, h100, hf⟩ := o_b1 hf
        refine j_callV (ci := 1) (Cn := "TollLedger$State") (T := T_ST) (N := 6) C [.int x1] [] (m_ST_piecesOf _ _ _ _ _ x1 σ h100) (gdV wd_3_169 wd_2_40 wd_2_41 wd_1_2 wc_ST_piecesOf) hy_ST_piecesOf rfl ⟨1, rfl⟩ rfl rfl (by decide) (by decide) (by decide) (by decide) (Nat.le_of_ble_eq_true rfl) d_TL_account_100 (j_kI (r := r100) (σ1 := σ) ?_)
        have hf := Option.some.inj hf
        subst hf
        exact j_iret C Rt (Nat.zero_le _) (Nat.zero_le _) d_TL_account_103 ⟨rfl, rfl⟩
      have hf := o_if c25_3 hf
      cases hf
    · have hf := o_it c19 hf
      refine j_iconst C (v := -1) (by decide) d_TL_account_22 ?_
      have hf := Option.some.inj hf
      subst hf
      exact j_iret C Rt (Nat.zero_le _) (Nat.zero_le _) d_TL_account_23 ⟨rfl, rfl⟩
theorem d_TL_isCurrency_0 : decode b_TL_isCurrency 0 = .ok (.iload_n 0, 1) := by decide +kernel
theorem d_TL_isCurrency_1 : decode b_TL_isCurrency 1 = .ok (.iconst 1, 1) := by decide +kernel
theorem d_TL_isCurrency_2 : decode b_TL_isCurrency 2 = .ok (.iconst 2, 1) := by decide +kernel
theorem d_TL_isCurrency_3 : decode b_TL_isCurrency 3 = .ok (.invokestatic 47, 3) := by decide +kernel
theorem d_TL_isCurrency_6 : decode b_TL_isCurrency 6 = .ok (.ireturn, 1) := by decide +kernel
def TL_isCurrency (x0 : Int32) : Option (Int32) :=
  bd1 (TL_isWithin x0 (1 : Int32) (2 : Int32)) fun r3 =>
  if ¬ (r3 = 0 ∨ r3 = 1) then none else
  some r3
set_option maxRecDepth 100000 in
set_option maxHeartbeats 4000000 in
theorem m_TL_isCurrency (l : Launch) (D : va_G) (ad : Nat → Nat) (cs : Nat → ClassId) (eE : Nat × Nat) (x0 : Int32) (σ : ST) {res : Int32} (hf : TL_isCurrency x0 = some res) : MS l y_TL_isCurrency (Cond.code y_TL_isCurrency b_TL_isCurrency 1 r_TL_isCurrency :: BIG) 1 22 0 0 (wfm ad cs) D (ttf cs) eE [.int x0] σ (PI res σ) := by
  refine MS.of (cc := b_TL_isCurrency) (maxL := 1) (ret := r_TL_isCurrency) (by decide) rfl (Nat.le_of_ble_eq_true rfl) (loc := [(0, .int x0)]) rfl (fun X C Rt => ?_)
  unfold TL_isCurrency at hf
  refine j_iload_n C 0 rfl rfl d_TL_isCurrency_0 ?_
  refine j_iconst C (v := 1) (by decide) d_TL_isCurrency_1 ?_
  refine j_iconst C (v := 2) (by decide) d_TL_isCurrency_2 ?_
  obtain ⟨r3, h3, hf⟩ := o_b1 hf
  refine j_callS C [.int x0, .int (1 : Int32), .int (2 : Int32)] [] (m_TL_isWithin _ _ _ _ _ x0 (1 : Int32) (2 : Int32) σ h3) (gdS wd_2_16 wd_2_17 wd_1_1 wc_TL_isWithin) hy_TL_isWithin rfl rfl (by decide) (by decide) (by decide) (by decide) (Nat.le_of_ble_eq_true rfl) d_TL_isCurrency_3 (j_kI (r := r3) (σ1 := σ) ?_)
  obtain ⟨g6, hf⟩ := o_gn hf
  have hf := Option.some.inj hf
  subst hf
  exact j_zret C Rt (Decidable.not_not.mp g6) (Nat.zero_le _) (Nat.zero_le _) d_TL_isCurrency_6 ⟨rfl, rfl⟩
theorem d_TL_isLine_0 : decode b_TL_isLine 0 = .ok (.iload_n 0, 1) := by decide +kernel
theorem d_TL_isLine_1 : decode b_TL_isLine 1 = .ok (.invokestatic 43, 3) := by decide +kernel
theorem d_TL_isLine_4 : decode b_TL_isLine 4 = .ok (.ifCond .eq 26, 3) := by decide +kernel
theorem d_TL_isLine_7 : decode b_TL_isLine 7 = .ok (.iload_n 1, 1) := by decide +kernel
theorem d_TL_isLine_8 : decode b_TL_isLine 8 = .ok (.invokestatic 43, 3) := by decide +kernel
theorem d_TL_isLine_11 : decode b_TL_isLine 11 = .ok (.ifCond .eq 19, 3) := by decide +kernel
theorem d_TL_isLine_14 : decode b_TL_isLine 14 = .ok (.iload_n 0, 1) := by decide +kernel
theorem d_TL_isLine_15 : decode b_TL_isLine 15 = .ok (.iload_n 1, 1) := by decide +kernel
theorem d_TL_isLine_16 : decode b_TL_isLine 16 = .ok (.if_icmp .eq 14, 3) := by decide +kernel
theorem d_TL_isLine_19 : decode b_TL_isLine 19 = .ok (.iload_n 2, 1) := by decide +kernel
theorem d_TL_isLine_20 : decode b_TL_isLine 20 = .ok (.invokestatic 79, 3) := by decide +kernel
theorem d_TL_isLine_23 : decode b_TL_isLine 23 = .ok (.ifCond .eq 7, 3) := by decide +kernel
theorem d_TL_isLine_26 : decode b_TL_isLine 26 = .ok (.iconst 1, 1) := by decide +kernel
theorem d_TL_isLine_27 : decode b_TL_isLine 27 = .ok (.goto 4, 3) := by decide +kernel
theorem d_TL_isLine_30 : decode b_TL_isLine 30 = .ok (.iconst 0, 1) := by decide +kernel
theorem d_TL_isLine_31 : decode b_TL_isLine 31 = .ok (.ireturn, 1) := by decide +kernel
def TL_isLine (x0 : Int32) (x1 : Int32) (x2 : Int32) : Option (Int32) :=
  bd1 (TL_isAccount x0) fun r1 =>
  if r1 = 0 then (some (0 : Int32))
  else (bd1 (TL_isAccount x1) fun r8 =>
  if r8 = 0 then (some (0 : Int32))
  else (if x0 = x1 then (some (0 : Int32))
  else (bd1 (TL_isCurrency x2) fun r20 =>
  if r20 = 0 then (some (0 : Int32))
  else (some (1 : Int32)))))
set_option maxRecDepth 100000 in
set_option maxHeartbeats 4000000 in
theorem m_TL_isLine (l : Launch) (D : va_G) (ad : Nat → Nat) (cs : Nat → ClassId) (eE : Nat × Nat) (x0 : Int32) (x1 : Int32) (x2 : Int32) (σ : ST) {res : Int32} (hf : TL_isLine x0 x1 x2 = some res) : MS l y_TL_isLine (Cond.code y_TL_isLine b_TL_isLine 3 r_TL_isLine :: BIG) 2 42 0 0 (wfm ad cs) D (ttf cs) eE [.int x0, .int x1, .int x2] σ (PI res σ) := by
  refine MS.of (cc := b_TL_isLine) (maxL := 3) (ret := r_TL_isLine) (by decide) rfl (Nat.le_of_ble_eq_true rfl) (loc := [(0, .int x0), (1, .int x1), (2, .int x2)]) rfl (fun X C Rt => ?_)
  unfold TL_isLine at hf
  refine j_iload_n C 0 rfl rfl d_TL_isLine_0 ?_
  obtain ⟨r1, h1, hf⟩ := o_b1 hf
  refine j_callS C [.int x0] [] (m_TL_isAccount _ _ _ _ _ x0 σ h1) (gdS wd_2_13 wd_2_14 wd_1_1 wc_TL_isAccount) hy_TL_isAccount rfl rfl (by decide) (by decide) (by decide) (by decide) (Nat.le_of_ble_eq_true rfl) d_TL_isLine_1 (j_kI (r := r1) (σ1 := σ) ?_)
  refine j_if_eq C d_TL_isLine_4 rfl (fun c4 => ?_) (fun c4 => ?_)
  · have hf := o_it c4 hf
    refine j_iconst C (v := 0) (by decide) d_TL_isLine_30 ?_
    have hf := Option.some.inj hf
    subst hf
    exact j_zret C Rt (by decide) (Nat.zero_le _) (Nat.zero_le _) d_TL_isLine_31 ⟨rfl, rfl⟩
  · have hf := o_if c4 hf
    refine j_iload_n C 1 rfl rfl d_TL_isLine_7 ?_
    obtain ⟨r8, h8, hf⟩ := o_b1 hf
    refine j_callS C [.int x1] [] (m_TL_isAccount _ _ _ _ _ x1 σ h8) (gdS wd_2_13 wd_2_14 wd_1_1 wc_TL_isAccount) hy_TL_isAccount rfl rfl (by decide) (by decide) (by decide) (by decide) (Nat.le_of_ble_eq_true rfl) d_TL_isLine_8 (j_kI (r := r8) (σ1 := σ) ?_)
    refine j_if_eq C d_TL_isLine_11 rfl (fun c11 => ?_) (fun c11 => ?_)
    · have hf := o_it c11 hf
      refine j_iconst C (v := 0) (by decide) d_TL_isLine_30 ?_
      have hf := Option.some.inj hf
      subst hf
      exact j_zret C Rt (by decide) (Nat.zero_le _) (Nat.zero_le _) d_TL_isLine_31 ⟨rfl, rfl⟩
    · have hf := o_if c11 hf
      refine j_iload_n C 0 rfl rfl d_TL_isLine_14 ?_
      refine j_iload_n C 1 rfl rfl d_TL_isLine_15 ?_
      refine j_icmp_eq C d_TL_isLine_16 rfl (fun c16 => ?_) (fun c16 => ?_)
      · have hf := o_it c16 hf
        refine j_iconst C (v := 0) (by decide) d_TL_isLine_30 ?_
        have hf := Option.some.inj hf
        subst hf
        exact j_zret C Rt (by decide) (Nat.zero_le _) (Nat.zero_le _) d_TL_isLine_31 ⟨rfl, rfl⟩
      · have hf := o_if c16 hf
        refine j_iload_n C 2 rfl rfl d_TL_isLine_19 ?_
        obtain ⟨r20, h20, hf⟩ := o_b1 hf
        refine j_callS C [.int x2] [] (m_TL_isCurrency _ _ _ _ _ x2 σ h20) (gdS wd_2_97 wd_2_98 wd_1_1 wc_TL_isCurrency) hy_TL_isCurrency rfl rfl (by decide) (by decide) (by decide) (by decide) (Nat.le_of_ble_eq_true rfl) d_TL_isLine_20 (j_kI (r := r20) (σ1 := σ) ?_)
        refine j_if_eq C d_TL_isLine_23 rfl (fun c23 => ?_) (fun c23 => ?_)
        · have hf := o_it c23 hf
          refine j_iconst C (v := 0) (by decide) d_TL_isLine_30 ?_
          have hf := Option.some.inj hf
          subst hf
          exact j_zret C Rt (by decide) (Nat.zero_le _) (Nat.zero_le _) d_TL_isLine_31 ⟨rfl, rfl⟩
        · have hf := o_if c23 hf
          refine j_iconst C (v := 1) (by decide) d_TL_isLine_26 ?_
          refine j_goto C d_TL_isLine_27 rfl ?_
          have hf := Option.some.inj hf
          subst hf
          exact j_zret C Rt (by decide) (Nat.zero_le _) (Nat.zero_le _) d_TL_isLine_31 ⟨rfl, rfl⟩
theorem d_TL_balance_0 : decode b_TL_balance 0 = .ok (.iload_n 1, 1) := by decide +kernel
theorem d_TL_balance_1 : decode b_TL_balance 1 = .ok (.iload_n 2, 1) := by decide +kernel
theorem d_TL_balance_2 : decode b_TL_balance 2 = .ok (.iload_n 3, 1) := by decide +kernel
theorem d_TL_balance_3 : decode b_TL_balance 3 = .ok (.invokestatic 219, 3) := by decide +kernel
theorem d_TL_balance_6 : decode b_TL_balance 6 = .ok (.ifCond .eq 23, 3) := by decide +kernel
theorem d_TL_balance_9 : decode b_TL_balance 9 = .ok (.aload_n 0, 1) := by decide +kernel
theorem d_TL_balance_10 : decode b_TL_balance 10 = .ok (.getfield 10, 3) := by decide +kernel
theorem d_TL_balance_13 : decode b_TL_balance 13 = .ok (.getfield 89, 3) := by decide +kernel
theorem d_TL_balance_16 : decode b_TL_balance 16 = .ok (.getfield 222, 3) := by decide +kernel
theorem d_TL_balance_19 : decode b_TL_balance 19 = .ok (.iload_n 1, 1) := by decide +kernel
theorem d_TL_balance_20 : decode b_TL_balance 20 = .ok (.iload_n 2, 1) := by decide +kernel
theorem d_TL_balance_21 : decode b_TL_balance 21 = .ok (.iload_n 3, 1) := by decide +kernel
theorem d_TL_balance_22 : decode b_TL_balance 22 = .ok (.invokestatic 83, 3) := by decide +kernel
theorem d_TL_balance_25 : decode b_TL_balance 25 = .ok (.iaload, 1) := by decide +kernel
theorem d_TL_balance_26 : decode b_TL_balance 26 = .ok (.goto 4, 3) := by decide +kernel
theorem d_TL_balance_29 : decode b_TL_balance 29 = .ok (.iconst 0, 1) := by decide +kernel
theorem d_TL_balance_30 : decode b_TL_balance 30 = .ok (.ireturn, 1) := by decide +kernel
def TL_balance (x1 : Int32) (x2 : Int32) (x3 : Int32) (σ : ST) : Option (Int32) :=
  bd1 (TL_isLine x1 x2 x3) fun r3 =>
  if r3 = 0 then (some (0 : Int32))
  else (bd1 (LN_side x1 x2 x3) fun r22 =>
  if r22 < 0 ∨ 72 ≤ r22.toNatClampNeg then none else
  some (gA σ 0 r22.toNatClampNeg))
set_option maxRecDepth 100000 in
set_option maxHeartbeats 4000000 in
theorem m_TL_balance (l : Launch) (D : va_G) (ad : Nat → Nat) (cs : Nat → ClassId) (eE : Nat × Nat) (x1 : Int32) (x2 : Int32) (x3 : Int32) (σ : ST) {res : Int32} (hf : TL_balance x1 x2 x3 σ = some res) : MS l y_TL_balance (Cond.code y_TL_balance b_TL_balance 4 r_TL_balance :: BIG) 3 64 0 0 (wfm ad cs) D (ttf cs) eE [.ref (ad 0), .int x1, .int x2, .int x3] σ (PI res σ) := by
  refine MS.of (cc := b_TL_balance) (maxL := 4) (ret := r_TL_balance) (by decide) rfl (Nat.le_of_ble_eq_true rfl) (loc := [(0, .ref (ad 0)), (1, .int x1), (2, .int x2), (3, .int x3)]) rfl (fun X C Rt => ?_)
  unfold TL_balance at hf
  refine j_iload_n C 1 rfl rfl d_TL_balance_0 ?_
  refine j_iload_n C 2 rfl rfl d_TL_balance_1 ?_
  refine j_iload_n C 3 rfl rfl d_TL_balance_2 ?_
  obtain ⟨r3, h3, hf⟩ := o_b1 hf
  refine j_callS C [.int x1, .int x2, .int x3] [] (m_TL_isLine _ _ _ _ _ x1 x2 x3 σ h3) (gdS wd_3_174 wd_3_175 wd_1_1 wc_TL_isLine) hy_TL_isLine rfl rfl (by decide) (by decide) (by decide) (by decide) (Nat.le_of_ble_eq_true rfl) d_TL_balance_3 (j_kI (r := r3) (σ1 := σ) ?_)
  refine j_if_eq C d_TL_balance_6 rfl (fun c6 => ?_) (fun c6 => ?_)
  · have hf := o_it c6 hf
    refine j_iconst C (v := 0) (by decide) d_TL_balance_29 ?_
    have hf := Option.some.inj hf
    subst hf
    exact j_iret C Rt (Nat.zero_le _) (Nat.zero_le _) d_TL_balance_30 ⟨rfl, rfl⟩
  · have hf := o_if c6 hf
    refine j_aload_n C 0 rfl rfl d_TL_balance_9 ?_
    refine g_TL_state C (List.mem_cons_of_mem _ wd_1_218) d_TL_balance_10 ?_
    refine g_ST_lines C (List.mem_cons_of_mem _ wd_1_115) d_TL_balance_13 ?_
    refine g_LN_balances C (List.mem_cons_of_mem _ wd_1_44) d_TL_balance_16 ?_
    refine j_iload_n C 1 rfl rfl d_TL_balance_19 ?_
    refine j_iload_n C 2 rfl rfl d_TL_balance_20 ?_
    refine j_iload_n C 3 rfl rfl d_TL_balance_21 ?_
    obtain ⟨r22, h22, hf⟩ := o_b1 hf
    refine j_callS C [.int x1, .int x2, .int x3] [.ref (ad 9)] (m_LN_side _ _ _ _ _ x1 x2 x3 σ h22) (gdS wd_2_101 wd_2_48 wd_1_3 wc_LN_side) hy_LN_side rfl rfl (by decide) (by decide) (by decide) (by decide) (Nat.le_of_ble_eq_true rfl) d_TL_balance_22 (j_kI (r := r22) (σ1 := σ) ?_)
    obtain ⟨g25, hf⟩ := o_gn hf
    refine la_bal C g25 d_TL_balance_25 ?_
    refine j_goto C d_TL_balance_26 rfl ?_
    have hf := Option.some.inj hf
    subst hf
    exact j_iret C Rt (Nat.zero_le _) (Nat.zero_le _) d_TL_balance_30 ⟨rfl, rfl⟩
theorem d_TL_isAsset_0 : decode b_TL_isAsset 0 = .ok (.iload_n 0, 1) := by decide +kernel
theorem d_TL_isAsset_1 : decode b_TL_isAsset 1 = .ok (.iconst 0, 1) := by decide +kernel
theorem d_TL_isAsset_2 : decode b_TL_isAsset 2 = .ok (.bipush 12, 2) := by decide +kernel
theorem d_TL_isAsset_4 : decode b_TL_isAsset 4 = .ok (.invokestatic 47, 3) := by decide +kernel
theorem d_TL_isAsset_7 : decode b_TL_isAsset 7 = .ok (.ireturn, 1) := by decide +kernel
def TL_isAsset (x0 : Int32) : Option (Int32) :=
  bd1 (TL_isWithin x0 (0 : Int32) (12 : Int32)) fun r4 =>
  if ¬ (r4 = 0 ∨ r4 = 1) then none else
  some r4
set_option maxRecDepth 100000 in
set_option maxHeartbeats 4000000 in
theorem m_TL_isAsset (l : Launch) (D : va_G) (ad : Nat → Nat) (cs : Nat → ClassId) (eE : Nat × Nat) (x0 : Int32) (σ : ST) {res : Int32} (hf : TL_isAsset x0 = some res) : MS l y_TL_isAsset (Cond.code y_TL_isAsset b_TL_isAsset 1 r_TL_isAsset :: BIG) 1 22 0 0 (wfm ad cs) D (ttf cs) eE [.int x0] σ (PI res σ) := by
  refine MS.of (cc := b_TL_isAsset) (maxL := 1) (ret := r_TL_isAsset) (by decide) rfl (Nat.le_of_ble_eq_true rfl) (loc := [(0, .int x0)]) rfl (fun X C Rt => ?_)
  unfold TL_isAsset at hf
  refine j_iload_n C 0 rfl rfl d_TL_isAsset_0 ?_
  refine j_iconst C (v := 0) (by decide) d_TL_isAsset_1 ?_
  refine j_bipush C (v := 12) (by decide) d_TL_isAsset_2 ?_
  obtain ⟨r4, h4, hf⟩ := o_b1 hf
  refine j_callS C [.int x0, .int (0 : Int32), .int (12 : Int32)] [] (m_TL_isWithin _ _ _ _ _ x0 (0 : Int32) (12 : Int32) σ h4) (gdS wd_2_16 wd_2_17 wd_1_1 wc_TL_isWithin) hy_TL_isWithin rfl rfl (by decide) (by decide) (by decide) (by decide) (Nat.le_of_ble_eq_true rfl) d_TL_isAsset_4 (j_kI (r := r4) (σ1 := σ) ?_)
  obtain ⟨g7, hf⟩ := o_gn hf
  have hf := Option.some.inj hf
  subst hf
  exact j_zret C Rt (Decidable.not_not.mp g7) (Nat.zero_le _) (Nat.zero_le _) d_TL_isAsset_7 ⟨rfl, rfl⟩
theorem d_TL_book_0 : decode b_TL_book 0 = .ok (.iload_n 1, 1) := by decide +kernel
theorem d_TL_book_1 : decode b_TL_book 1 = .ok (.invokestatic 111, 3) := by decide +kernel
theorem d_TL_book_4 : decode b_TL_book 4 = .ok (.ifCond .eq 10, 3) := by decide +kernel
theorem d_TL_book_7 : decode b_TL_book 7 = .ok (.iload_n 2, 1) := by decide +kernel
theorem d_TL_book_8 : decode b_TL_book 8 = .ok (.invokestatic 111, 3) := by decide +kernel
theorem d_TL_book_11 : decode b_TL_book 11 = .ok (.ifCond .ne 5, 3) := by decide +kernel
theorem d_TL_book_14 : decode b_TL_book 14 = .ok (.iconst (-1), 1) := by decide +kernel
theorem d_TL_book_15 : decode b_TL_book 15 = .ok (.ireturn, 1) := by decide +kernel
theorem d_TL_book_16 : decode b_TL_book 16 = .ok (.aload_n 0, 1) := by decide +kernel
theorem d_TL_book_17 : decode b_TL_book 17 = .ok (.getfield 21, 3) := by decide +kernel
theorem d_TL_book_20 : decode b_TL_book 20 = .ok (.getfield 225, 3) := by decide +kernel
theorem d_TL_book_23 : decode b_TL_book 23 = .ok (.aload_n 0, 1) := by decide +kernel
theorem d_TL_book_24 : decode b_TL_book 24 = .ok (.getfield 10, 3) := by decide +kernel
theorem d_TL_book_27 : decode b_TL_book 27 = .ok (.getfield 162, 3) := by decide +kernel
theorem d_TL_book_30 : decode b_TL_book 30 = .ok (.iload_n 1, 1) := by decide +kernel
theorem d_TL_book_31 : decode b_TL_book 31 = .ok (.iload_n 2, 1) := by decide +kernel
theorem d_TL_book_32 : decode b_TL_book 32 = .ok (.iconst (-1), 1) := by decide +kernel
theorem d_TL_book_33 : decode b_TL_book 33 = .ok (.invokevirtual 229, 3) := by decide +kernel
theorem d_TL_book_36 : decode b_TL_book 36 = .ok (.iload_n 3, 1) := by decide +kernel
theorem d_TL_book_37 : decode b_TL_book 37 = .ok (.iconst (-1), 1) := by decide +kernel
theorem d_TL_book_38 : decode b_TL_book 38 = .ok (.if_icmp .ne 14, 3) := by decide +kernel
theorem d_TL_book_41 : decode b_TL_book 41 = .ok (.aload_n 0, 1) := by decide +kernel
theorem d_TL_book_42 : decode b_TL_book 42 = .ok (.getfield 21, 3) := by decide +kernel
theorem d_TL_book_45 : decode b_TL_book 45 = .ok (.getfield 225, 3) := by decide +kernel
theorem d_TL_book_48 : decode b_TL_book 48 = .ok (.getfield 235, 3) := by decide +kernel
theorem d_TL_book_51 : decode b_TL_book 51 = .ok (.ireturn, 1) := by decide +kernel
theorem d_TL_book_52 : decode b_TL_book 52 = .ok (.iload_n 3, 1) := by decide +kernel
theorem d_TL_book_53 : decode b_TL_book 53 = .ok (.iconst 0, 1) := by decide +kernel
theorem d_TL_book_54 : decode b_TL_book 54 = .ok (.aload_n 0, 1) := by decide +kernel
theorem d_TL_book_55 : decode b_TL_book 55 = .ok (.getfield 21, 3) := by decide +kernel
theorem d_TL_book_58 : decode b_TL_book 58 = .ok (.getfield 225, 3) := by decide +kernel
theorem d_TL_book_61 : decode b_TL_book 61 = .ok (.getfield 235, 3) := by decide +kernel
theorem d_TL_book_64 : decode b_TL_book 64 = .ok (.iconst 1, 1) := by decide +kernel
theorem d_TL_book_65 : decode b_TL_book 65 = .ok (.isub, 1) := by decide +kernel
theorem d_TL_book_66 : decode b_TL_book 66 = .ok (.invokestatic 47, 3) := by decide +kernel
theorem d_TL_book_69 : decode b_TL_book 69 = .ok (.ifCond .eq 21, 3) := by decide +kernel
theorem d_TL_book_72 : decode b_TL_book 72 = .ok (.aload_n 0, 1) := by decide +kernel
theorem d_TL_book_73 : decode b_TL_book 73 = .ok (.getfield 21, 3) := by decide +kernel
theorem d_TL_book_76 : decode b_TL_book 76 = .ok (.getfield 225, 3) := by decide +kernel
theorem d_TL_book_79 : decode b_TL_book 79 = .ok (.getfield 237, 3) := by decide +kernel
theorem d_TL_book_82 : decode b_TL_book 82 = .ok (.iload_n 3, 1) := by decide +kernel
theorem d_TL_book_83 : decode b_TL_book 83 = .ok (.aaload, 1) := by decide +kernel
theorem d_TL_book_84 : decode b_TL_book 84 = .ok (.getfield 241, 3) := by decide +kernel
theorem d_TL_book_87 : decode b_TL_book 87 = .ok (.goto 4, 3) := by decide +kernel
theorem d_TL_book_90 : decode b_TL_book 90 = .ok (.iconst (-1), 1) := by decide +kernel
theorem d_TL_book_91 : decode b_TL_book 91 = .ok (.ireturn, 1) := by decide +kernel
def TL_book (x1 : Int32) (x2 : Int32) (x3 : Int32) (σ : ST) : Option (Int32 × ST) :=
  bd1 (TL_isAsset x1) fun r1 =>
  if r1 = 0 then (some ((-1 : Int32), σ))
  else (bd1 (TL_isAsset x2) fun r8 =>
  if r8 = 0 then (some ((-1 : Int32), σ))
  else (bd1 (BK_gather x1 x2 (-1 : Int32) σ) fun σ33 =>
  if x3 = (-1 : Int32) then (some ((gI σ33 9), σ33))
  else (bd1 (TL_isWithin x3 (0 : Int32) ((gI σ33 9) - (1 : Int32))) fun r66 =>
  if r66 = 0 then (some ((-1 : Int32), σ33))
  else (if x3 < 0 ∨ 12 ≤ x3.toNatClampNeg then none else
  bd1 (gR σ33 1 x3.toNatClampNeg) fun q83 =>
  if ¬ (q83 ∈ pL σ33 ∧ pK σ33 q83 = 2) then none else
  some ((pP σ33 q83 0), σ33)))))
set_option maxRecDepth 100000 in
set_option maxHeartbeats 4000000 in
theorem m_TL_book (l : Launch) (D : va_G) (ad : Nat → Nat) (cs : Nat → ClassId) (eE : Nat × Nat) (x1 : Int32) (x2 : Int32) (x3 : Int32) (σ : ST) {res : Int32 × ST} (hf : TL_book x1 x2 x3 σ = some res) : MS l y_TL_book (Cond.code y_TL_book b_TL_book 4 r_TL_book :: BIG) 4 90 0 0 (wfm ad cs) D (ttf cs) eE [.ref (ad 0), .int x1, .int x2, .int x3] σ (PI res.1 res.2) := by
  refine MS.of (cc := b_TL_book) (maxL := 4) (ret := r_TL_book) (by decide) rfl (Nat.le_of_ble_eq_true rfl) (loc := [(0, .ref (ad 0)), (1, .int x1), (2, .int x2), (3, .int x3)]) rfl (fun X C Rt => ?_)
  unfold TL_book at hf
  refine j_iload_n C 1 rfl rfl d_TL_book_0 ?_
  obtain ⟨r1, h1, hf⟩ := o_b1 hf
  refine j_callS C [.int x1] [] (m_TL_isAsset _ _ _ _ _ x1 σ h1) (gdS wd_2_115 wd_2_116 wd_1_1 wc_TL_isAsset) hy_TL_isAsset rfl rfl (by decide) (by decide) (by decide) (by decide) (Nat.le_of_ble_eq_true rfl) d_TL_book_1 (j_kI (r := r1) (σ1 := σ) ?_)
  refine j_if_eq C d_TL_book_4 rfl (fun c4 => ?_) (fun c4 => ?_)
  · have hf := o_it c4 hf
    refine j_iconst C (v := -1) (by decide) d_TL_book_14 ?_
    have hf := Option.some.inj hf
    subst hf
    exact j_iret C Rt (Nat.zero_le _) (Nat.zero_le _) d_TL_book_15 ⟨rfl, rfl⟩
  · have hf := o_if c4 hf
    refine j_iload_n C 2 rfl rfl d_TL_book_7 ?_
    obtain ⟨r8, h8, hf⟩ := o_b1 hf
    refine j_callS C [.int x2] [] (m_TL_isAsset _ _ _ _ _ x2 σ h8) (gdS wd_2_115 wd_2_116 wd_1_1 wc_TL_isAsset) hy_TL_isAsset rfl rfl (by decide) (by decide) (by decide) (by decide) (Nat.le_of_ble_eq_true rfl) d_TL_book_8 (j_kI (r := r8) (σ1 := σ) ?_)
    refine j_if_ne C d_TL_book_11 rfl (fun c11 => ?_) (fun c11 => ?_)
    · have hf := o_if c11 hf
      refine j_aload_n C 0 rfl rfl d_TL_book_16 ?_
      refine g_TL_taking C (List.mem_cons_of_mem _ wd_1_219) d_TL_book_17 ?_
      refine g_TK_book C (List.mem_cons_of_mem _ wd_1_165) d_TL_book_20 ?_
      refine j_aload_n C 0 rfl rfl d_TL_book_23 ?_
      refine g_TL_state C (List.mem_cons_of_mem _ wd_1_218) d_TL_book_24 ?_
      refine g_ST_offers C (List.mem_cons_of_mem _ wd_1_119) d_TL_book_27 ?_
      refine j_iload_n C 1 rfl rfl d_TL_book_30 ?_
      refine j_iload_n C 2 rfl rfl d_TL_book_31 ?_
      refine j_iconst C (v := -1) (by decide) d_TL_book_32 ?_
      obtain ⟨σ33, h33, hf⟩ := o_b1 hf
      refine j_callV (ci := 3) (Cn := "TollLedger$Book") (T := T_BK) (N := 2) C [.ref (ad 6), .int x1, .int x2, .int (-1 : Int32)] [] (m_BK_gather _ _ _ _ _ x1 x2 (-1 : Int32) σ h33) (gdV wd_3_189 wd_2_127 wd_2_128 wd_1_9 wc_BK_gather) hy_BK_gather rfl ⟨3, rfl⟩ rfl rfl (by decide) (by decide) (by decide) (by decide) (Nat.le_of_ble_eq_true rfl) d_TL_book_33 (j_kV (σ1 := σ33) ?_)
      refine j_iload_n C 3 rfl rfl d_TL_book_36 ?_
      refine j_iconst C (v := -1) (by decide) d_TL_book_37 ?_
      refine j_icmp_ne C d_TL_book_38 rfl (fun c38 => ?_) (fun c38 => ?_)
      · have hf := o_if c38 hf
        refine j_iload_n C 3 rfl rfl d_TL_book_52 ?_
        refine j_iconst C (v := 0) (by decide) d_TL_book_53 ?_
        refine j_aload_n C 0 rfl rfl d_TL_book_54 ?_
        refine g_TL_taking C (List.mem_cons_of_mem _ wd_1_219) d_TL_book_55 ?_
        refine g_TK_book C (List.mem_cons_of_mem _ wd_1_165) d_TL_book_58 ?_
        refine g_BK_size C (List.mem_cons_of_mem _ wd_1_157) d_TL_book_61 ?_
        refine j_iconst C (v := 1) (by decide) d_TL_book_64 ?_
        refine j_isub C d_TL_book_65 ?_
        obtain ⟨r66, h66, hf⟩ := o_b1 hf
        refine j_callS C [.int x3, .int (0 : Int32), .int ((gI σ33 9) - (1 : Int32))] [] (m_TL_isWithin _ _ _ _ _ x3 (0 : Int32) ((gI σ33 9) - (1 : Int32)) σ33 h66) (gdS wd_2_16 wd_2_17 wd_1_1 wc_TL_isWithin) hy_TL_isWithin rfl rfl (by decide) (by decide) (by decide) (by decide) (Nat.le_of_ble_eq_true rfl) d_TL_book_66 (j_kI (r := r66) (σ1 := σ33) ?_)
        refine j_if_eq C d_TL_book_69 rfl (fun c69 => ?_) (fun c69 => ?_)
        · have hf := o_it c69 hf
          refine j_iconst C (v := -1) (by decide) d_TL_book_90 ?_
          have hf := Option.some.inj hf
          subst hf
          exact j_iret C Rt (Nat.zero_le _) (Nat.zero_le _) d_TL_book_91 ⟨rfl, rfl⟩
        · have hf := o_if c69 hf
          refine j_aload_n C 0 rfl rfl d_TL_book_72 ?_
          refine g_TL_taking C (List.mem_cons_of_mem _ wd_1_219) d_TL_book_73 ?_
          refine g_TK_book C (List.mem_cons_of_mem _ wd_1_165) d_TL_book_76 ?_
          refine g_BK_row C (List.mem_cons_of_mem _ wd_1_154) d_TL_book_79 ?_
          refine j_iload_n C 3 rfl rfl d_TL_book_82 ?_
          obtain ⟨g83, hf⟩ := o_gn hf
          obtain ⟨q83, hq83, hf⟩ := o_b1 hf
          refine la_row C g83 hq83 d_TL_book_83 ?_
          obtain ⟨g84, hf⟩ := o_gn hf
          refine gp_Offer_id C (Decidable.not_not.mp g84) (List.mem_cons_of_mem _ wd_3_13) d_TL_book_84 ?_
          refine j_goto C d_TL_book_87 rfl ?_
          have hf := Option.some.inj hf
          subst hf
          exact j_iret C Rt (Nat.zero_le _) (Nat.zero_le _) d_TL_book_91 ⟨rfl, rfl⟩
      · have hf := o_it c38 hf
        refine j_aload_n C 0 rfl rfl d_TL_book_41 ?_
        refine g_TL_taking C (List.mem_cons_of_mem _ wd_1_219) d_TL_book_42 ?_
        refine g_TK_book C (List.mem_cons_of_mem _ wd_1_165) d_TL_book_45 ?_
        refine g_BK_size C (List.mem_cons_of_mem _ wd_1_157) d_TL_book_48 ?_
        have hf := Option.some.inj hf
        subst hf
        exact j_iret C Rt (Nat.zero_le _) (Nat.zero_le _) d_TL_book_51 ⟨rfl, rfl⟩
    · have hf := o_it c11 hf
      refine j_iconst C (v := -1) (by decide) d_TL_book_14 ?_
      have hf := Option.some.inj hf
      subst hf
      exact j_iret C Rt (Nat.zero_le _) (Nat.zero_le _) d_TL_book_15 ⟨rfl, rfl⟩
theorem d_TL_burnt_0 : decode b_TL_burnt 0 = .ok (.aload_n 0, 1) := by decide +kernel
theorem d_TL_burnt_1 : decode b_TL_burnt 1 = .ok (.getfield 250, 3) := by decide +kernel
theorem d_TL_burnt_4 : decode b_TL_burnt 4 = .ok (.ireturn, 1) := by decide +kernel
def TL_burnt (σ : ST) : Option (Int32) :=
  some (gI σ 6)
set_option maxRecDepth 100000 in
set_option maxHeartbeats 4000000 in
theorem m_TL_burnt (l : Launch) (D : va_G) (ad : Nat → Nat) (cs : Nat → ClassId) (eE : Nat × Nat) (σ : ST) {res : Int32} (hf : TL_burnt σ = some res) : MS l y_TL_burnt (Cond.code y_TL_burnt b_TL_burnt 1 r_TL_burnt :: BIG) 0 0 0 0 (wfm ad cs) D (ttf cs) eE [.ref (ad 0)] σ (PI res σ) := by
  refine MS.of (cc := b_TL_burnt) (maxL := 1) (ret := r_TL_burnt) (by decide) rfl (Nat.le_of_ble_eq_true rfl) (loc := [(0, .ref (ad 0))]) rfl (fun X C Rt => ?_)
  unfold TL_burnt at hf
  refine j_aload_n C 0 rfl rfl d_TL_burnt_0 ?_
  refine g_TL_burntCoins C (List.mem_cons_of_mem _ wd_1_227) d_TL_burnt_1 ?_
  have hf := Option.some.inj hf
  subst hf
  exact j_iret C Rt (Nat.zero_le _) (Nat.zero_le _) d_TL_burnt_4 ⟨rfl, rfl⟩
theorem d_TL_by_0 : decode b_TL_by 0 = .ok (.iload_n 1, 1) := by decide +kernel
theorem d_TL_by_1 : decode b_TL_by 1 = .ok (.invokestatic 43, 3) := by decide +kernel
theorem d_TL_by_4 : decode b_TL_by 4 = .ok (.ifCond .eq 13, 3) := by decide +kernel
theorem d_TL_by_7 : decode b_TL_by 7 = .ok (.iload_n 2, 1) := by decide +kernel
theorem d_TL_by_8 : decode b_TL_by 8 = .ok (.iconst 1, 1) := by decide +kernel
theorem d_TL_by_9 : decode b_TL_by 9 = .ok (.ldc 39, 2) := by decide +kernel
theorem d_TL_by_11 : decode b_TL_by 11 = .ok (.invokestatic 47, 3) := by decide +kernel
theorem d_TL_by_14 : decode b_TL_by 14 = .ok (.ifCond .ne 5, 3) := by decide +kernel
theorem d_TL_by_17 : decode b_TL_by 17 = .ok (.iconst 0, 1) := by decide +kernel
theorem d_TL_by_18 : decode b_TL_by 18 = .ok (.ireturn, 1) := by decide +kernel
theorem d_TL_by_19 : decode b_TL_by 19 = .ok (.aload_n 0, 1) := by decide +kernel
theorem d_TL_by_20 : decode b_TL_by 20 = .ok (.iload_n 1, 1) := by decide +kernel
theorem d_TL_by_21 : decode b_TL_by 21 = .ok (.putfield 32, 3) := by decide +kernel
theorem d_TL_by_24 : decode b_TL_by 24 = .ok (.aload_n 0, 1) := by decide +kernel
theorem d_TL_by_25 : decode b_TL_by 25 = .ok (.iload_n 2, 1) := by decide +kernel
theorem d_TL_by_26 : decode b_TL_by 26 = .ok (.putfield 51, 3) := by decide +kernel
theorem d_TL_by_29 : decode b_TL_by 29 = .ok (.iconst 1, 1) := by decide +kernel
theorem d_TL_by_30 : decode b_TL_by 30 = .ok (.ireturn, 1) := by decide +kernel
def TL_by (x1 : Int32) (x2 : Int32) (σ : ST) : Option (Int32 × ST) :=
  bd1 (TL_isAccount x1) fun r1 =>
  if r1 = 0 then (some ((0 : Int32), σ))
  else (bd1 (TL_isWithin x2 (1 : Int32) (1000000 : Int32)) fun r11 =>
  if r11 = 0 then (some ((0 : Int32), σ))
  else (nmS (sI σ 0 x1) fun σ21 =>
  nmS (sI σ21 1 x2) fun σ26 =>
  some ((1 : Int32), σ26)))
set_option maxRecDepth 100000 in
set_option maxHeartbeats 4000000 in
theorem m_TL_by (l : Launch) (D : va_G) (ad : Nat → Nat) (cs : Nat → ClassId) (eE : Nat × Nat) (x1 : Int32) (x2 : Int32) (σ : ST) {res : Int32 × ST} (hf : TL_by x1 x2 σ = some res) : MS l y_TL_by (Cond.code y_TL_by b_TL_by 3 r_TL_by :: BIG) 2 42 0 0 (wfm ad cs) D (ttf cs) eE [.ref (ad 0), .int x1, .int x2] σ (PI res.1 res.2) := by
  refine MS.of (cc := b_TL_by) (maxL := 3) (ret := r_TL_by) (by decide) rfl (Nat.le_of_ble_eq_true rfl) (loc := [(0, .ref (ad 0)), (1, .int x1), (2, .int x2)]) rfl (fun X C Rt => ?_)
  unfold TL_by at hf
  refine j_iload_n C 1 rfl rfl d_TL_by_0 ?_
  obtain ⟨r1, h1, hf⟩ := o_b1 hf
  refine j_callS C [.int x1] [] (m_TL_isAccount _ _ _ _ _ x1 σ h1) (gdS wd_2_13 wd_2_14 wd_1_1 wc_TL_isAccount) hy_TL_isAccount rfl rfl (by decide) (by decide) (by decide) (by decide) (Nat.le_of_ble_eq_true rfl) d_TL_by_1 (j_kI (r := r1) (σ1 := σ) ?_)
  refine j_if_eq C d_TL_by_4 rfl (fun c4 => ?_) (fun c4 => ?_)
  · have hf := o_it c4 hf
    refine j_iconst C (v := 0) (by decide) d_TL_by_17 ?_
    have hf := Option.some.inj hf
    subst hf
    exact j_zret C Rt (by decide) (Nat.zero_le _) (Nat.zero_le _) d_TL_by_18 ⟨rfl, rfl⟩
  · have hf := o_if c4 hf
    refine j_iload_n C 2 rfl rfl d_TL_by_7 ?_
    refine j_iconst C (v := 1) (by decide) d_TL_by_8 ?_
    refine j_ldc C (v := 1000000) (List.mem_cons_of_mem _ wd_1_217) d_TL_by_9 ?_
    obtain ⟨r11, h11, hf⟩ := o_b1 hf
    refine j_callS C [.int x2, .int (1 : Int32), .int (1000000 : Int32)] [] (m_TL_isWithin _ _ _ _ _ x2 (1 : Int32) (1000000 : Int32) σ h11) (gdS wd_2_16 wd_2_17 wd_1_1 wc_TL_isWithin) hy_TL_isWithin rfl rfl (by decide) (by decide) (by decide) (by decide) (Nat.le_of_ble_eq_true rfl) d_TL_by_11 (j_kI (r := r11) (σ1 := σ) ?_)
    refine j_if_ne C d_TL_by_14 rfl (fun c14 => ?_) (fun c14 => ?_)
    · have hf := o_if c14 hf
      refine j_aload_n C 0 rfl rfl d_TL_by_19 ?_
      refine j_iload_n C 1 rfl rfl d_TL_by_20 ?_
      obtain ⟨σ21, eσ21, hf⟩ := o_nmS hf
      refine p_TL_signer C eσ21 (List.mem_cons_of_mem _ wd_1_221) d_TL_by_21 ?_
      refine j_aload_n C 0 rfl rfl d_TL_by_24 ?_
      refine j_iload_n C 2 rfl rfl d_TL_by_25 ?_
      obtain ⟨σ26, eσ26, hf⟩ := o_nmS hf
      refine p_TL_signedNumber C eσ26 (List.mem_cons_of_mem _ wd_1_222) d_TL_by_26 ?_
      refine j_iconst C (v := 1) (by decide) d_TL_by_29 ?_
      have hf := Option.some.inj hf
      subst hf
      exact j_zret C Rt (by decide) (Nat.zero_le _) (Nat.zero_le _) d_TL_by_30 ⟨rfl, rfl⟩
    · have hf := o_it c14 hf
      refine j_iconst C (v := 0) (by decide) d_TL_by_17 ?_
      have hf := Option.some.inj hf
      subst hf
      exact j_zret C Rt (by decide) (Nat.zero_le _) (Nat.zero_le _) d_TL_by_18 ⟨rfl, rfl⟩
theorem d_TL_canPlace_0 : decode b_TL_canPlace 0 = .ok (.aload_n 0, 1) := by decide +kernel
theorem d_TL_canPlace_1 : decode b_TL_canPlace 1 = .ok (.getfield 10, 3) := by decide +kernel
theorem d_TL_canPlace_4 : decode b_TL_canPlace 4 = .ok (.getfield 162, 3) := by decide +kernel
theorem d_TL_canPlace_7 : decode b_TL_canPlace 7 = .ok (.invokevirtual 183, 3) := by decide +kernel
theorem d_TL_canPlace_10 : decode b_TL_canPlace 10 = .ok (.iload_n 1, 1) := by decide +kernel
theorem d_TL_canPlace_11 : decode b_TL_canPlace 11 = .ok (.isub, 1) := by decide +kernel
theorem d_TL_canPlace_12 : decode b_TL_canPlace 12 = .ok (.bipush 12, 2) := by decide +kernel
theorem d_TL_canPlace_14 : decode b_TL_canPlace 14 = .ok (.if_icmp .ge 22, 3) := by decide +kernel
theorem d_TL_canPlace_17 : decode b_TL_canPlace 17 = .ok (.aload_n 0, 1) := by decide +kernel
theorem d_TL_canPlace_18 : decode b_TL_canPlace 18 = .ok (.getfield 10, 3) := by decide +kernel
theorem d_TL_canPlace_21 : decode b_TL_canPlace 21 = .ok (.aload_n 0, 1) := by decide +kernel
theorem d_TL_canPlace_22 : decode b_TL_canPlace 22 = .ok (.getfield 32, 3) := by decide +kernel
theorem d_TL_canPlace_25 : decode b_TL_canPlace 25 = .ok (.iconst 0, 1) := by decide +kernel
theorem d_TL_canPlace_26 : decode b_TL_canPlace 26 = .ok (.invokevirtual 96, 3) := by decide +kernel
theorem d_TL_canPlace_29 : decode b_TL_canPlace 29 = .ok (.ifCond .eq 7, 3) := by decide +kernel
theorem d_TL_canPlace_32 : decode b_TL_canPlace 32 = .ok (.iconst 1, 1) := by decide +kernel
theorem d_TL_canPlace_33 : decode b_TL_canPlace 33 = .ok (.goto 4, 3) := by decide +kernel
theorem d_TL_canPlace_36 : decode b_TL_canPlace 36 = .ok (.iconst 0, 1) := by decide +kernel
theorem d_TL_canPlace_37 : decode b_TL_canPlace 37 = .ok (.ireturn, 1) := by decide +kernel
def TL_canPlace (x1 : Int32) (σ : ST) : Option (Int32) :=
  bd1 (AL_size_OL σ) fun r7 =>
  if (12 : Int32) ≤ (r7 - x1) then (some (0 : Int32))
  else (bd1 (ST_affordsOneMore (gI σ 0) (0 : Int32) σ) fun r26 =>
  if r26 = 0 then (some (0 : Int32))
  else (some (1 : Int32)))
set_option maxRecDepth 100000 in
set_option maxHeartbeats 4000000 in
theorem m_TL_canPlace (l : Launch) (D : va_G) (ad : Nat → Nat) (cs : Nat → ClassId) (eE : Nat × Nat) (x1 : Int32) (σ : ST) {res : Int32} (hf : TL_canPlace x1 σ = some res) : MS l y_TL_canPlace (Cond.code y_TL_canPlace b_TL_canPlace 2 r_TL_canPlace :: BIG) 6 130 0 0 (wfm ad cs) D (ttf cs) eE [.ref (ad 0), .int x1] σ (PI res σ) := by
  refine MS.of (cc := b_TL_canPlace) (maxL := 2) (ret := r_TL_canPlace) (by decide) rfl (Nat.le_of_ble_eq_true rfl) (loc := [(0, .ref (ad 0)), (1, .int x1)]) rfl (fun X C Rt => ?_)
  unfold TL_canPlace at hf
  refine j_aload_n C 0 rfl rfl d_TL_canPlace_0 ?_
  refine g_TL_state C (List.mem_cons_of_mem _ wd_1_218) d_TL_canPlace_1 ?_
  refine g_ST_offers C (List.mem_cons_of_mem _ wd_1_119) d_TL_canPlace_4 ?_
  obtain ⟨r7, h7, hf⟩ := o_b1 hf
  refine j_callV (ci := 9) (Cn := "java/util/ArrayList") (T := T_AL) (N := 3) C [] [] (m_AL_size_OL _ _ _ _ _ σ h7) (gdV wd_3_1 wd_2_55 wd_2_56 wd_1_6 wc_AL_size) hy_AL_size rfl ⟨6, rfl⟩ rfl rfl (by decide) (by decide) (by decide) (by decide) (Nat.le_of_ble_eq_true rfl) d_TL_canPlace_7 (j_kI (r := r7) (σ1 := σ) ?_)
  refine j_iload_n C 1 rfl rfl d_TL_canPlace_10 ?_
  refine j_isub C d_TL_canPlace_11 ?_
  refine j_bipush C (v := 12) (by decide) d_TL_canPlace_12 ?_
  refine j_icmp_ge C d_TL_canPlace_14 rfl (fun c14 => ?_) (fun c14 => ?_)
  · have hf := o_it c14 hf
    refine j_iconst C (v := 0) (by decide) d_TL_canPlace_36 ?_
    have hf := Option.some.inj hf
    subst hf
    exact j_zret C Rt (by decide) (Nat.zero_le _) (Nat.zero_le _) d_TL_canPlace_37 ⟨rfl, rfl⟩
  · have hf := o_if c14 hf
    refine j_aload_n C 0 rfl rfl d_TL_canPlace_17 ?_
    refine g_TL_state C (List.mem_cons_of_mem _ wd_1_218) d_TL_canPlace_18 ?_
    refine j_aload_n C 0 rfl rfl d_TL_canPlace_21 ?_
    refine g_TL_signer C (List.mem_cons_of_mem _ wd_1_221) d_TL_canPlace_22 ?_
    refine j_iconst C (v := 0) (by decide) d_TL_canPlace_25 ?_
    obtain ⟨r26, h26, hf⟩ := o_b1 hf
    refine j_callV (ci := 1) (Cn := "TollLedger$State") (T := T_ST) (N := 6) C [.int (gI σ 0), .int (0 : Int32)] [] (m_ST_affordsOneMore _ _ _ _ _ (gI σ 0) (0 : Int32) σ h26) (gdV wd_2_103 wd_2_104 wd_2_105 wd_1_2 wc_ST_affordsOneMore) hy_ST_affordsOneMore rfl ⟨1, rfl⟩ rfl rfl (by decide) (by decide) (by decide) (by decide) (Nat.le_of_ble_eq_true rfl) d_TL_canPlace_26 (j_kI (r := r26) (σ1 := σ) ?_)
    refine j_if_eq C d_TL_canPlace_29 rfl (fun c29 => ?_) (fun c29 => ?_)
    · have hf := o_it c29 hf
      refine j_iconst C (v := 0) (by decide) d_TL_canPlace_36 ?_
      have hf := Option.some.inj hf
      subst hf
      exact j_zret C Rt (by decide) (Nat.zero_le _) (Nat.zero_le _) d_TL_canPlace_37 ⟨rfl, rfl⟩
    · have hf := o_if c29 hf
      refine j_iconst C (v := 1) (by decide) d_TL_canPlace_32 ?_
      refine j_goto C d_TL_canPlace_33 rfl ?_
      have hf := Option.some.inj hf
      subst hf
      exact j_zret C Rt (by decide) (Nat.zero_le _) (Nat.zero_le _) d_TL_canPlace_37 ⟨rfl, rfl⟩
theorem d_TL_charge_0 : decode b_TL_charge 0 = .ok (.iload_n 1, 1) := by decide +kernel
theorem d_TL_charge_1 : decode b_TL_charge 1 = .ok (.ifCond .eq 11, 3) := by decide +kernel
theorem d_TL_charge_4 : decode b_TL_charge 4 = .ok (.aload_n 0, 1) := by decide +kernel
theorem d_TL_charge_5 : decode b_TL_charge 5 = .ok (.getfield 32, 3) := by decide +kernel
theorem d_TL_charge_8 : decode b_TL_charge 8 = .ok (.iconst (-1), 1) := by decide +kernel
theorem d_TL_charge_9 : decode b_TL_charge 9 = .ok (.if_icmp .ne 5, 3) := by decide +kernel
theorem d_TL_charge_12 : decode b_TL_charge 12 = .ok (.iconst (-1), 1) := by decide +kernel
theorem d_TL_charge_13 : decode b_TL_charge 13 = .ok (.ireturn, 1) := by decide +kernel
theorem d_TL_charge_14 : decode b_TL_charge 14 = .ok (.aload_n 0, 1) := by decide +kernel
theorem d_TL_charge_15 : decode b_TL_charge 15 = .ok (.getfield 10, 3) := by decide +kernel
theorem d_TL_charge_18 : decode b_TL_charge 18 = .ok (.getfield 61, 3) := by decide +kernel
theorem d_TL_charge_21 : decode b_TL_charge 21 = .ok (.aload_n 0, 1) := by decide +kernel
theorem d_TL_charge_22 : decode b_TL_charge 22 = .ok (.getfield 32, 3) := by decide +kernel
theorem d_TL_charge_25 : decode b_TL_charge 25 = .ok (.aaload, 1) := by decide +kernel
theorem d_TL_charge_26 : decode b_TL_charge 26 = .ok (.astore_n 2, 1) := by decide +kernel
theorem d_TL_charge_27 : decode b_TL_charge 27 = .ok (.aload_n 2, 1) := by decide +kernel
theorem d_TL_charge_28 : decode b_TL_charge 28 = .ok (.getfield 65, 3) := by decide +kernel
theorem d_TL_charge_31 : decode b_TL_charge 31 = .ok (.ifCond .ne 6, 3) := by decide +kernel
theorem d_TL_charge_34 : decode b_TL_charge 34 = .ok (.bipush (-2), 2) := by decide +kernel
theorem d_TL_charge_36 : decode b_TL_charge 36 = .ok (.ireturn, 1) := by decide +kernel
theorem d_TL_charge_37 : decode b_TL_charge 37 = .ok (.aload_n 0, 1) := by decide +kernel
theorem d_TL_charge_38 : decode b_TL_charge 38 = .ok (.getfield 51, 3) := by decide +kernel
theorem d_TL_charge_41 : decode b_TL_charge 41 = .ok (.aload_n 2, 1) := by decide +kernel
theorem d_TL_charge_42 : decode b_TL_charge 42 = .ok (.getfield 213, 3) := by decide +kernel
theorem d_TL_charge_45 : decode b_TL_charge 45 = .ok (.if_icmp .le 6, 3) := by decide +kernel
theorem d_TL_charge_48 : decode b_TL_charge 48 = .ok (.bipush (-3), 2) := by decide +kernel
theorem d_TL_charge_50 : decode b_TL_charge 50 = .ok (.ireturn, 1) := by decide +kernel
theorem d_TL_charge_51 : decode b_TL_charge 51 = .ok (.aload_n 0, 1) := by decide +kernel
theorem d_TL_charge_52 : decode b_TL_charge 52 = .ok (.getfield 51, 3) := by decide +kernel
theorem d_TL_charge_55 : decode b_TL_charge 55 = .ok (.aload_n 2, 1) := by decide +kernel
theorem d_TL_charge_56 : decode b_TL_charge 56 = .ok (.getfield 213, 3) := by decide +kernel
theorem d_TL_charge_59 : decode b_TL_charge 59 = .ok (.if_icmp .ge 6, 3) := by decide +kernel
theorem d_TL_charge_62 : decode b_TL_charge 62 = .ok (.bipush (-4), 2) := by decide +kernel
theorem d_TL_charge_64 : decode b_TL_charge 64 = .ok (.ireturn, 1) := by decide +kernel
theorem d_TL_charge_65 : decode b_TL_charge 65 = .ok (.aload_n 2, 1) := by decide +kernel
theorem d_TL_charge_66 : decode b_TL_charge 66 = .ok (.getfield 212, 3) := by decide +kernel
theorem d_TL_charge_69 : decode b_TL_charge 69 = .ok (.bipush 10, 2) := by decide +kernel
theorem d_TL_charge_71 : decode b_TL_charge 71 = .ok (.if_icmp .ge 6, 3) := by decide +kernel
theorem d_TL_charge_74 : decode b_TL_charge 74 = .ok (.bipush (-5), 2) := by decide +kernel
theorem d_TL_charge_76 : decode b_TL_charge 76 = .ok (.ireturn, 1) := by decide +kernel
theorem d_TL_charge_77 : decode b_TL_charge 77 = .ok (.aload_n 2, 1) := by decide +kernel
theorem d_TL_charge_78 : decode b_TL_charge 78 = .ok (.dup, 1) := by decide +kernel
theorem d_TL_charge_79 : decode b_TL_charge 79 = .ok (.getfield 212, 3) := by decide +kernel
theorem d_TL_charge_82 : decode b_TL_charge 82 = .ok (.bipush 10, 2) := by decide +kernel
theorem d_TL_charge_84 : decode b_TL_charge 84 = .ok (.isub, 1) := by decide +kernel
theorem d_TL_charge_85 : decode b_TL_charge 85 = .ok (.putfield 212, 3) := by decide +kernel
theorem d_TL_charge_88 : decode b_TL_charge 88 = .ok (.aload_n 2, 1) := by decide +kernel
theorem d_TL_charge_89 : decode b_TL_charge 89 = .ok (.dup, 1) := by decide +kernel
theorem d_TL_charge_90 : decode b_TL_charge 90 = .ok (.getfield 213, 3) := by decide +kernel
theorem d_TL_charge_93 : decode b_TL_charge 93 = .ok (.iconst 1, 1) := by decide +kernel
theorem d_TL_charge_94 : decode b_TL_charge 94 = .ok (.iadd, 1) := by decide +kernel
theorem d_TL_charge_95 : decode b_TL_charge 95 = .ok (.putfield 213, 3) := by decide +kernel
theorem d_TL_charge_98 : decode b_TL_charge 98 = .ok (.aload_n 0, 1) := by decide +kernel
theorem d_TL_charge_99 : decode b_TL_charge 99 = .ok (.dup, 1) := by decide +kernel
theorem d_TL_charge_100 : decode b_TL_charge 100 = .ok (.getfield 250, 3) := by decide +kernel
theorem d_TL_charge_103 : decode b_TL_charge 103 = .ok (.bipush 10, 2) := by decide +kernel
theorem d_TL_charge_105 : decode b_TL_charge 105 = .ok (.iadd, 1) := by decide +kernel
theorem d_TL_charge_106 : decode b_TL_charge 106 = .ok (.putfield 250, 3) := by decide +kernel
theorem d_TL_charge_109 : decode b_TL_charge 109 = .ok (.iconst 0, 1) := by decide +kernel
theorem d_TL_charge_110 : decode b_TL_charge 110 = .ok (.ireturn, 1) := by decide +kernel
def TL_charge (x1 : Int32) (σ : ST) : Option (Int32 × ST) :=
  if x1 = 0 then (some ((-1 : Int32), σ))
  else (if (gI σ 0) = (-1 : Int32) then (some ((-1 : Int32), σ))
  else (if (gI σ 0) < 0 ∨ 6 ≤ (gI σ 0).toNatClampNeg then none else
  bd1 (gR σ 0 (gI σ 0).toNatClampNeg) fun q25 =>
  if ¬ (q25 ∈ pL σ ∧ pK σ q25 = 1) then none else
  if (pP σ q25 0) = 0 then (some ((-2 : Int32), σ))
  else (if (gI σ 1) ≤ (pP σ q25 2) then (if (pP σ q25 2) ≤ (gI σ 1) then (if (10 : Int32) ≤ (pP σ q25 1) then (nmS (sP σ q25 1 ((pP σ q25 1) - (10 : Int32))) fun σ85 =>
  if ¬ (q25 ∈ pL σ85 ∧ pK σ85 q25 = 1) then none else
  nmS (sP σ85 q25 2 ((pP σ85 q25 2) + (1 : Int32))) fun σ95 =>
  nmS (sI σ95 6 ((gI σ95 6) + (10 : Int32))) fun σ106 =>
  some ((0 : Int32), σ106))
  else (some ((-5 : Int32), σ)))
  else (some ((-4 : Int32), σ)))
  else (some ((-3 : Int32), σ)))))
set_option maxRecDepth 100000 in
set_option maxHeartbeats 4000000 in
theorem m_TL_charge (l : Launch) (D : va_G) (ad : Nat → Nat) (cs : Nat → ClassId) (eE : Nat × Nat) (x1 : Int32) (σ : ST) {res : Int32 × ST} (hf : TL_charge x1 σ = some res) : MS l y_TL_charge (Cond.code y_TL_charge b_TL_charge 3 r_TL_charge :: BIG) 0 0 0 0 (wfm ad cs) D (ttf cs) eE [.ref (ad 0), .int x1] σ (PI res.1 res.2) := by
  refine MS.of (cc := b_TL_charge) (maxL := 3) (ret := r_TL_charge) (by decide) rfl (Nat.le_of_ble_eq_true rfl) (loc := [(0, .ref (ad 0)), (1, .int x1)]) rfl (fun X C Rt => ?_)
  unfold TL_charge at hf
  refine j_iload_n C 1 rfl rfl d_TL_charge_0 ?_
  refine j_if_eq C d_TL_charge_1 rfl (fun c1 => ?_) (fun c1 => ?_)
  · have hf := o_it c1 hf
    refine j_iconst C (v := -1) (by decide) d_TL_charge_12 ?_
    have hf := Option.some.inj hf
    subst hf
    exact j_iret C Rt (Nat.zero_le _) (Nat.zero_le _) d_TL_charge_13 ⟨rfl, rfl⟩
  · have hf := o_if c1 hf
    refine j_aload_n C 0 rfl rfl d_TL_charge_4 ?_
    refine g_TL_signer C (List.mem_cons_of_mem _ wd_1_221) d_TL_charge_5 ?_
    refine j_iconst C (v := -1) (by decide) d_TL_charge_8 ?_
    refine j_icmp_ne C d_TL_charge_9 rfl (fun c9 => ?_) (fun c9 => ?_)
    · have hf := o_if c9 hf
      refine j_aload_n C 0 rfl rfl d_TL_charge_14 ?_
      refine g_TL_state C (List.mem_cons_of_mem _ wd_1_218) d_TL_charge_15 ?_
      refine g_ST_accounts C (List.mem_cons_of_mem _ wd_1_112) d_TL_charge_18 ?_
      refine j_aload_n C 0 rfl rfl d_TL_charge_21 ?_
      refine g_TL_signer C (List.mem_cons_of_mem _ wd_1_221) d_TL_charge_22 ?_
      obtain ⟨g25, hf⟩ := o_gn hf
      obtain ⟨q25, hq25, hf⟩ := o_b1 hf
      refine la_acc C g25 hq25 d_TL_charge_25 ?_
      refine j_astore_n C rfl (by decide) (loc' := [(2, .ref q25), (0, .ref (ad 0)), (1, .int x1)]) rfl d_TL_charge_26 ?_
      refine j_aload_n C 0 rfl rfl d_TL_charge_27 ?_
      obtain ⟨g28, hf⟩ := o_gn hf
      refine gp_Account_exists C (Decidable.not_not.mp g28) (List.mem_cons_of_mem _ wd_1_91) d_TL_charge_28 ?_
      refine j_if_ne C d_TL_charge_31 rfl (fun c31 => ?_) (fun c31 => ?_)
      · have hf := o_if c31 hf
        refine j_aload_n C 1 rfl rfl d_TL_charge_37 ?_
        refine g_TL_signedNumber C (List.mem_cons_of_mem _ wd_1_222) d_TL_charge_38 ?_
        refine j_aload_n C 0 rfl rfl d_TL_charge_41 ?_
        refine gp_Account_number C (Decidable.not_not.mp g28) (List.mem_cons_of_mem _ wd_1_96) d_TL_charge_42 ?_
        refine j_icmp_le C d_TL_charge_45 rfl (fun c45 => ?_) (fun c45 => ?_)
        · have hf := o_it c45 hf
          refine j_aload_n C 1 rfl rfl d_TL_charge_51 ?_
          refine g_TL_signedNumber C (List.mem_cons_of_mem _ wd_1_222) d_TL_charge_52 ?_
          refine j_aload_n C 0 rfl rfl d_TL_charge_55 ?_
          refine gp_Account_number C (Decidable.not_not.mp g28) (List.mem_cons_of_mem _ wd_1_96) d_TL_charge_56 ?_
          refine j_icmp_ge C d_TL_charge_59 rfl (fun c59 => ?_) (fun c59 => ?_)
          · have hf := o_it c59 hf
            refine j_aload_n C 0 rfl rfl d_TL_charge_65 ?_
            refine gp_Account_coins C (Decidable.not_not.mp g28) (List.mem_cons_of_mem _ wd_1_94) d_TL_charge_66 ?_
            refine j_bipush C (v := 10) (by decide) d_TL_charge_69 ?_
            refine j_icmp_ge C d_TL_charge_71 rfl (fun c71 => ?_) (fun c71 => ?_)
            · have hf := o_it c71 hf
              refine j_aload_n C 0 rfl rfl d_TL_charge_77 ?_
              refine j_dup C rfl d_TL_charge_78 ?_
              refine gp_Account_coins C (Decidable.not_not.mp g28) (List.mem_cons_of_mem _ wd_1_94) d_TL_charge_79 ?_
              refine j_bipush C (v := 10) (by decide) d_TL_charge_82 ?_
              refine j_isub C d_TL_charge_84 ?_
              obtain ⟨σ85, eσ85, hf⟩ := o_nmS hf
              refine pp_Account_coins C (Decidable.not_not.mp g28) eσ85 (List.mem_cons_of_mem _ wd_1_94) d_TL_charge_85 ?_
              refine j_aload_n C 0 rfl rfl d_TL_charge_88 ?_
              refine j_dup C rfl d_TL_charge_89 ?_
              obtain ⟨g90, hf⟩ := o_gn hf
              refine gp_Account_number C (Decidable.not_not.mp g90) (List.mem_cons_of_mem _ wd_1_96) d_TL_charge_90 ?_
              refine j_iconst C (v := 1) (by decide) d_TL_charge_93 ?_
              refine j_iadd C d_TL_charge_94 ?_
              obtain ⟨σ95, eσ95, hf⟩ := o_nmS hf
              refine pp_Account_number C (Decidable.not_not.mp g90) eσ95 (List.mem_cons_of_mem _ wd_1_96) d_TL_charge_95 ?_
              refine j_aload_n C 1 rfl rfl d_TL_charge_98 ?_
              refine j_dup C rfl d_TL_charge_99 ?_
              refine g_TL_burntCoins C (List.mem_cons_of_mem _ wd_1_227) d_TL_charge_100 ?_
              refine j_bipush C (v := 10) (by decide) d_TL_charge_103 ?_
              refine j_iadd C d_TL_charge_105 ?_
              obtain ⟨σ106, eσ106, hf⟩ := o_nmS hf
              refine p_TL_burntCoins C eσ106 (List.mem_cons_of_mem _ wd_1_227) d_TL_charge_106 ?_
              refine j_iconst C (v := 0) (by decide) d_TL_charge_109 ?_
              have hf := Option.some.inj hf
              subst hf
              exact j_iret C Rt (Nat.zero_le _) (Nat.zero_le _) d_TL_charge_110 ⟨rfl, rfl⟩
            · have hf := o_if c71 hf
              refine j_bipush C (v := -5) (by decide) d_TL_charge_74 ?_
              have hf := Option.some.inj hf
              subst hf
              exact j_iret C Rt (Nat.zero_le _) (Nat.zero_le _) d_TL_charge_76 ⟨rfl, rfl⟩
          · have hf := o_if c59 hf
            refine j_bipush C (v := -4) (by decide) d_TL_charge_62 ?_
            have hf := Option.some.inj hf
            subst hf
            exact j_iret C Rt (Nat.zero_le _) (Nat.zero_le _) d_TL_charge_64 ⟨rfl, rfl⟩
        · have hf := o_if c45 hf
          refine j_bipush C (v := -3) (by decide) d_TL_charge_48 ?_
          have hf := Option.some.inj hf
          subst hf
          exact j_iret C Rt (Nat.zero_le _) (Nat.zero_le _) d_TL_charge_50 ⟨rfl, rfl⟩
      · have hf := o_it c31 hf
        refine j_bipush C (v := -2) (by decide) d_TL_charge_34 ?_
        have hf := Option.some.inj hf
        subst hf
        exact j_iret C Rt (Nat.zero_le _) (Nat.zero_le _) d_TL_charge_36 ⟨rfl, rfl⟩
    · have hf := o_it c9 hf
      refine j_iconst C (v := -1) (by decide) d_TL_charge_12 ?_
      have hf := Option.some.inj hf
      subst hf
      exact j_iret C Rt (Nat.zero_le _) (Nat.zero_le _) d_TL_charge_13 ⟨rfl, rfl⟩
theorem d_TL_cancel_0 : decode b_TL_cancel 0 = .ok (.aload_n 0, 1) := by decide +kernel
theorem d_TL_cancel_1 : decode b_TL_cancel 1 = .ok (.iload_n 1, 1) := by decide +kernel
theorem d_TL_cancel_2 : decode b_TL_cancel 2 = .ok (.iconst 1, 1) := by decide +kernel
theorem d_TL_cancel_3 : decode b_TL_cancel 3 = .ok (.if_icmp .lt 7, 3) := by decide +kernel
theorem d_TL_cancel_6 : decode b_TL_cancel 6 = .ok (.iconst 1, 1) := by decide +kernel
theorem d_TL_cancel_7 : decode b_TL_cancel 7 = .ok (.goto 4, 3) := by decide +kernel
theorem d_TL_cancel_10 : decode b_TL_cancel 10 = .ok (.iconst 0, 1) := by decide +kernel
theorem d_TL_cancel_11 : decode b_TL_cancel 11 = .ok (.invokevirtual 57, 3) := by decide +kernel
theorem d_TL_cancel_14 : decode b_TL_cancel 14 = .ok (.istore_n 2, 1) := by decide +kernel
theorem d_TL_cancel_15 : decode b_TL_cancel 15 = .ok (.iload_n 2, 1) := by decide +kernel
theorem d_TL_cancel_16 : decode b_TL_cancel 16 = .ok (.ifCond .eq 5, 3) := by decide +kernel
theorem d_TL_cancel_19 : decode b_TL_cancel 19 = .ok (.iload_n 2, 1) := by decide +kernel
theorem d_TL_cancel_20 : decode b_TL_cancel 20 = .ok (.ireturn, 1) := by decide +kernel
theorem d_TL_cancel_21 : decode b_TL_cancel 21 = .ok (.aload_n 0, 1) := by decide +kernel
theorem d_TL_cancel_22 : decode b_TL_cancel 22 = .ok (.getfield 10, 3) := by decide +kernel
theorem d_TL_cancel_25 : decode b_TL_cancel 25 = .ok (.iload_n 1, 1) := by decide +kernel
theorem d_TL_cancel_26 : decode b_TL_cancel 26 = .ok (.invokevirtual 158, 3) := by decide +kernel
theorem d_TL_cancel_29 : decode b_TL_cancel 29 = .ok (.istore_n 3, 1) := by decide +kernel
theorem d_TL_cancel_30 : decode b_TL_cancel 30 = .ok (.iload_n 3, 1) := by decide +kernel
theorem d_TL_cancel_31 : decode b_TL_cancel 31 = .ok (.iconst (-1), 1) := by decide +kernel
theorem d_TL_cancel_32 : decode b_TL_cancel 32 = .ok (.if_icmp .eq 27, 3) := by decide +kernel
theorem d_TL_cancel_35 : decode b_TL_cancel 35 = .ok (.aload_n 0, 1) := by decide +kernel
theorem d_TL_cancel_36 : decode b_TL_cancel 36 = .ok (.getfield 10, 3) := by decide +kernel
theorem d_TL_cancel_39 : decode b_TL_cancel 39 = .ok (.getfield 162, 3) := by decide +kernel
theorem d_TL_cancel_42 : decode b_TL_cancel 42 = .ok (.iload_n 3, 1) := by decide +kernel
theorem d_TL_cancel_43 : decode b_TL_cancel 43 = .ok (.invokevirtual 166, 3) := by decide +kernel
theorem d_TL_cancel_46 : decode b_TL_cancel 46 = .ok (.checkcast 172, 3) := by decide +kernel
theorem d_TL_cancel_49 : decode b_TL_cancel 49 = .ok (.getfield 174, 3) := by decide +kernel
theorem d_TL_cancel_52 : decode b_TL_cancel 52 = .ok (.aload_n 0, 1) := by decide +kernel
theorem d_TL_cancel_53 : decode b_TL_cancel 53 = .ok (.getfield 32, 3) := by decide +kernel
theorem d_TL_cancel_56 : decode b_TL_cancel 56 = .ok (.if_icmp .eq 6, 3) := by decide +kernel
theorem d_TL_cancel_59 : decode b_TL_cancel 59 = .ok (.bipush 26, 2) := by decide +kernel
theorem d_TL_cancel_61 : decode b_TL_cancel 61 = .ok (.ireturn, 1) := by decide +kernel
theorem d_TL_cancel_62 : decode b_TL_cancel 62 = .ok (.aload_n 0, 1) := by decide +kernel
theorem d_TL_cancel_63 : decode b_TL_cancel 63 = .ok (.getfield 10, 3) := by decide +kernel
theorem d_TL_cancel_66 : decode b_TL_cancel 66 = .ok (.getfield 162, 3) := by decide +kernel
theorem d_TL_cancel_69 : decode b_TL_cancel 69 = .ok (.iload_n 3, 1) := by decide +kernel
theorem d_TL_cancel_70 : decode b_TL_cancel 70 = .ok (.invokevirtual 177, 3) := by decide +kernel
theorem d_TL_cancel_73 : decode b_TL_cancel 73 = .ok (.pop, 1) := by decide +kernel
theorem d_TL_cancel_74 : decode b_TL_cancel 74 = .ok (.iconst 0, 1) := by decide +kernel
theorem d_TL_cancel_75 : decode b_TL_cancel 75 = .ok (.ireturn, 1) := by decide +kernel
def TL_cancel_c11 (x1 : Int32) (s1 : Int32) (σ : ST) : Option (Int32 × ST) :=
  bd2 (TL_charge s1 σ) fun r11 σ11 =>
  if r11 = 0 then (bd1 (ST_placeOfOffer x1 σ11) fun r26 =>
  if r26 = (-1 : Int32) then (some ((26 : Int32), σ11))
  else (bd1 (AL_get_OL r26 σ11) fun r43 =>
  if ¬ (r43 ∈ pL σ11 ∧ pK σ11 r43 = 2) then none else
  if (pP σ11 r43 1) = (gI σ11 0) then (bd2 (AL_remove_OL r26 σ11) fun r70 σ70 =>
  some ((0 : Int32), σ70))
  else (some ((26 : Int32), σ11))))
  else (some (r11, σ11))
set_option maxRecDepth 100000 in
set_option maxHeartbeats 4000000 in
theorem w_TL_cancel_c11 {X : JX} (C : JC X l D (ttf cs) eE b_TL_cancel "TollLedger" 4 (Cond.code y_TL_cancel b_TL_cancel 4 r_TL_cancel :: BIG) 4 86 0 0) {res : Int32 × ST} (Rt : JR X (wfm ad cs) 0 0 (PI res.1 res.2) r_TL_cancel "cancel")  (x1 : Int32) (s1 : Int32) (σ : ST) (hf : TL_cancel_c11 x1 s1 σ = some res) : J (wfm ad cs) X 4 0 0 σ 11 [(0, .ref (ad 0)), (1, .int x1)] [.int s1, .ref (ad 0)] := by
  unfold TL_cancel_c11 at hf
  obtain ⟨r11, σ11, h11, hf⟩ := o_b2 hf
  refine j_callV (ci := 0) (Cn := "TollLedger") (T := T_TL) (N := 10) C [.int s1] [] (m_TL_charge _ _ _ _ _ s1 σ h11) (gdV wd_2_27 wd_2_29 wp_1 wd_1_1 wc_TL_charge) hy_TL_charge rfl ⟨0, rfl⟩ rfl rfl (by decide) (by decide) (by decide) (by decide) (Nat.le_of_ble_eq_true rfl) d_TL_cancel_11 (j_kI (r := r11) (σ1 := σ11) ?_)
  refine j_istore_n C rfl (by decide) (loc' := [(2, .int r11), (0, .ref (ad 0)), (1, .int x1)]) rfl d_TL_cancel_14 ?_
  refine j_iload_n C 0 rfl rfl d_TL_cancel_15 ?_
  refine j_if_eq C d_TL_cancel_16 rfl (fun c16 => ?_) (fun c16 => ?_)
  · have hf := o_it c16 hf
    refine j_aload_n C 1 rfl rfl d_TL_cancel_21 ?_
    refine g_TL_state C (List.mem_cons_of_mem _ wd_1_218) d_TL_cancel_22 ?_
    refine j_iload_n C 2 rfl rfl d_TL_cancel_25 ?_
    obtain ⟨r26, h26, hf⟩ := o_b1 hf
    refine j_callV (ci := 1) (Cn := "TollLedger$State") (T := T_ST) (N := 6) C [.int x1] [] (m_ST_placeOfOffer _ _ _ _ _ x1 σ11 h26) (gdV wd_3_102 wd_3_103 wd_3_104 wd_1_2 wc_ST_placeOfOffer) hy_ST_placeOfOffer rfl ⟨1, rfl⟩ rfl rfl (by decide) (by decide) (by decide) (by decide) (Nat.le_of_ble_eq_true rfl) d_TL_cancel_26 (j_kI (r := r26) (σ1 := σ11) ?_)
    refine j_istore_n C rfl (by decide) (loc' := [(3, .int r26), (2, .int r11), (0, .ref (ad 0)), (1, .int x1)]) rfl d_TL_cancel_29 ?_
    refine j_iload_n C 0 rfl rfl d_TL_cancel_30 ?_
    refine j_iconst C (v := -1) (by decide) d_TL_cancel_31 ?_
    refine j_icmp_eq C d_TL_cancel_32 rfl (fun c32 => ?_) (fun c32 => ?_)
    · have hf := o_it c32 hf
      refine j_bipush C (v := 26) (by decide) d_TL_cancel_59 ?_
      have hf := Option.some.inj hf
      subst hf
      exact j_iret C Rt (Nat.zero_le _) (Nat.zero_le _) d_TL_cancel_61 ⟨rfl, rfl⟩
    · have hf := o_if c32 hf
      refine j_aload_n C 2 rfl rfl d_TL_cancel_35 ?_
      refine g_TL_state C (List.mem_cons_of_mem _ wd_1_218) d_TL_cancel_36 ?_
      refine g_ST_offers C (List.mem_cons_of_mem _ wd_1_119) d_TL_cancel_39 ?_
      refine j_iload_n C 0 rfl rfl d_TL_cancel_42 ?_
      obtain ⟨r43, h43, hf⟩ := o_b1 hf
      refine j_callV (ci := 9) (Cn := "java/util/ArrayList") (T := T_AL) (N := 3) C [.int r26] [] (m_AL_get_OL _ _ _ _ _ r26 σ11 h43) (gdV wd_3_106 wd_2_59 wd_2_60 wd_1_6 wc_AL_get) hy_AL_get rfl ⟨6, rfl⟩ rfl rfl (by decide) (by decide) (by decide) (by decide) (Nat.le_of_ble_eq_true rfl) d_TL_cancel_43 (j_kA (r := r43) (σ1 := σ11) ?_)
      obtain ⟨g46, hf⟩ := o_gn hf
      refine cc_Offer C (Decidable.not_not.mp g46) (List.mem_cons_of_mem _ wd_3_107) d_TL_cancel_46 ?_
      refine gp_Offer_owner C (Decidable.not_not.mp g46) (List.mem_cons_of_mem _ wd_3_18) d_TL_cancel_49 ?_
      refine j_aload_n C 2 rfl rfl d_TL_cancel_52 ?_
      refine g_TL_signer C (List.mem_cons_of_mem _ wd_1_221) d_TL_cancel_53 ?_
      refine j_icmp_eq C d_TL_cancel_56 rfl (fun c56 => ?_) (fun c56 => ?_)
      · have hf := o_it c56 hf
        refine j_aload_n C 2 rfl rfl d_TL_cancel_62 ?_
        refine g_TL_state C (List.mem_cons_of_mem _ wd_1_218) d_TL_cancel_63 ?_
        refine g_ST_offers C (List.mem_cons_of_mem _ wd_1_119) d_TL_cancel_66 ?_
        refine j_iload_n C 0 rfl rfl d_TL_cancel_69 ?_
        obtain ⟨r70, σ70, h70, hf⟩ := o_b2 hf
        refine j_callV (ci := 9) (Cn := "java/util/ArrayList") (T := T_AL) (N := 3) C [.int r26] [] (m_AL_remove_OL _ _ _ _ _ r26 σ11 h70) (gdV wd_3_108 wd_2_207 wd_2_208 wd_1_6 wc_AL_remove) hy_AL_remove rfl ⟨6, rfl⟩ rfl rfl (by decide) (by decide) (by decide) (by decide) (Nat.le_of_ble_eq_true rfl) d_TL_cancel_70 (j_kA (r := r70) (σ1 := σ70) ?_)
        refine j_pop C rfl d_TL_cancel_73 ?_
        refine j_iconst C (v := 0) (by decide) d_TL_cancel_74 ?_
        have hf := Option.some.inj hf
        subst hf
        exact j_iret C Rt (Nat.zero_le _) (Nat.zero_le _) d_TL_cancel_75 ⟨rfl, rfl⟩
      · have hf := o_if c56 hf
        refine j_bipush C (v := 26) (by decide) d_TL_cancel_59 ?_
        have hf := Option.some.inj hf
        subst hf
        exact j_iret C Rt (Nat.zero_le _) (Nat.zero_le _) d_TL_cancel_61 ⟨rfl, rfl⟩
  · have hf := o_if c16 hf
    refine j_iload_n C 0 rfl rfl d_TL_cancel_19 ?_
    have hf := Option.some.inj hf
    subst hf
    exact j_iret C Rt (Nat.zero_le _) (Nat.zero_le _) d_TL_cancel_20 ⟨rfl, rfl⟩
def TL_cancel (x1 : Int32) (σ : ST) : Option (Int32 × ST) :=
  if x1 < (1 : Int32) then (TL_cancel_c11 x1 (0 : Int32) σ)
  else (TL_cancel_c11 x1 (1 : Int32) σ)
set_option maxRecDepth 100000 in
set_option maxHeartbeats 4000000 in
theorem m_TL_cancel (l : Launch) (D : va_G) (ad : Nat → Nat) (cs : Nat → ClassId) (eE : Nat × Nat) (x1 : Int32) (σ : ST) {res : Int32 × ST} (hf : TL_cancel x1 σ = some res) : MS l y_TL_cancel (Cond.code y_TL_cancel b_TL_cancel 4 r_TL_cancel :: BIG) 4 86 0 0 (wfm ad cs) D (ttf cs) eE [.ref (ad 0), .int x1] σ (PI res.1 res.2) := by
  refine MS.of (cc := b_TL_cancel) (maxL := 4) (ret := r_TL_cancel) (by decide) rfl (Nat.le_of_ble_eq_true rfl) (loc := [(0, .ref (ad 0)), (1, .int x1)]) rfl (fun X C Rt => ?_)
  unfold TL_cancel at hf
  refine j_aload_n C 0 rfl rfl d_TL_cancel_0 ?_
  refine j_iload_n C 1 rfl rfl d_TL_cancel_1 ?_
  refine j_iconst C (v := 1) (by decide) d_TL_cancel_2 ?_
  refine j_icmp_lt C d_TL_cancel_3 rfl (fun c3 => ?_) (fun c3 => ?_)
  · have hf := o_it c3 hf
    refine j_iconst C (v := 0) (by decide) d_TL_cancel_10 ?_
    exact w_TL_cancel_c11 C Rt  x1 (0 : Int32) σ hf
  · have hf := o_if c3 hf
    refine j_iconst C (v := 1) (by decide) d_TL_cancel_6 ?_
    refine j_goto C d_TL_cancel_7 rfl ?_
    exact w_TL_cancel_c11 C Rt  x1 (1 : Int32) σ hf
theorem d_TL_depositOf_0 : decode b_TL_depositOf 0 = .ok (.aload_n 0, 1) := by decide +kernel
theorem d_TL_depositOf_1 : decode b_TL_depositOf 1 = .ok (.getfield 10, 3) := by decide +kernel
theorem d_TL_depositOf_4 : decode b_TL_depositOf 4 = .ok (.iload_n 1, 1) := by decide +kernel
theorem d_TL_depositOf_5 : decode b_TL_depositOf 5 = .ok (.invokevirtual 189, 3) := by decide +kernel
theorem d_TL_depositOf_8 : decode b_TL_depositOf 8 = .ok (.istore_n 2, 1) := by decide +kernel
theorem d_TL_depositOf_9 : decode b_TL_depositOf 9 = .ok (.iload_n 2, 1) := by decide +kernel
theorem d_TL_depositOf_10 : decode b_TL_depositOf 10 = .ok (.iconst (-1), 1) := by decide +kernel
theorem d_TL_depositOf_11 : decode b_TL_depositOf 11 = .ok (.if_icmp .ne 7, 3) := by decide +kernel
theorem d_TL_depositOf_14 : decode b_TL_depositOf 14 = .ok (.iconst (-1), 1) := by decide +kernel
theorem d_TL_depositOf_15 : decode b_TL_depositOf 15 = .ok (.goto 20, 3) := by decide +kernel
theorem d_TL_depositOf_18 : decode b_TL_depositOf 18 = .ok (.aload_n 0, 1) := by decide +kernel
theorem d_TL_depositOf_19 : decode b_TL_depositOf 19 = .ok (.getfield 10, 3) := by decide +kernel
theorem d_TL_depositOf_22 : decode b_TL_depositOf 22 = .ok (.getfield 180, 3) := by decide +kernel
theorem d_TL_depositOf_25 : decode b_TL_depositOf 25 = .ok (.iload_n 2, 1) := by decide +kernel
theorem d_TL_depositOf_26 : decode b_TL_depositOf 26 = .ok (.invokevirtual 166, 3) := by decide +kernel
theorem d_TL_depositOf_29 : decode b_TL_depositOf 29 = .ok (.checkcast 192, 3) := by decide +kernel
theorem d_TL_depositOf_32 : decode b_TL_depositOf 32 = .ok (.getfield 209, 3) := by decide +kernel
theorem d_TL_depositOf_35 : decode b_TL_depositOf 35 = .ok (.ireturn, 1) := by decide +kernel
def TL_depositOf (x1 : Int32) (σ : ST) : Option (Int32) :=
  bd1 (ST_placeOfDeposit x1 σ) fun r5 =>
  if r5 = (-1 : Int32) then (some (-1 : Int32))
  else (bd1 (AL_get_DL r5 σ) fun r26 =>
  if ¬ (r26 ∈ pL σ ∧ pK σ r26 = 3) then none else
  some (pP σ r26 3))
set_option maxRecDepth 100000 in
set_option maxHeartbeats 4000000 in
theorem m_TL_depositOf (l : Launch) (D : va_G) (ad : Nat → Nat) (cs : Nat → ClassId) (eE : Nat × Nat) (x1 : Int32) (σ : ST) {res : Int32} (hf : TL_depositOf x1 σ = some res) : MS l y_TL_depositOf (Cond.code y_TL_depositOf b_TL_depositOf 3 r_TL_depositOf :: BIG) 4 86 0 0 (wfm ad cs) D (ttf cs) eE [.ref (ad 0), .int x1] σ (PI res σ) := by
  refine MS.of (cc := b_TL_depositOf) (maxL := 3) (ret := r_TL_depositOf) (by decide) rfl (Nat.le_of_ble_eq_true rfl) (loc := [(0, .ref (ad 0)), (1, .int x1)]) rfl (fun X C Rt => ?_)
  unfold TL_depositOf at hf
  refine j_aload_n C 0 rfl rfl d_TL_depositOf_0 ?_
  refine g_TL_state C (List.mem_cons_of_mem _ wd_1_218) d_TL_depositOf_1 ?_
  refine j_iload_n C 1 rfl rfl d_TL_depositOf_4 ?_
  obtain ⟨r5, h5, hf⟩ := o_b1 hf
  refine j_callV (ci := 1) (Cn := "TollLedger$State") (T := T_ST) (N := 6) C [.int x1] [] (m_ST_placeOfDeposit _ _ _ _ _ x1 σ h5) (gdV wd_3_156 wd_3_157 wd_3_158 wd_1_2 wc_ST_placeOfDeposit) hy_ST_placeOfDeposit rfl ⟨1, rfl⟩ rfl rfl (by decide) (by decide) (by decide) (by decide) (Nat.le_of_ble_eq_true rfl) d_TL_depositOf_5 (j_kI (r := r5) (σ1 := σ) ?_)
  refine j_istore_n C rfl (by decide) (loc' := [(2, .int r5), (0, .ref (ad 0)), (1, .int x1)]) rfl d_TL_depositOf_8 ?_
  refine j_iload_n C 0 rfl rfl d_TL_depositOf_9 ?_
  refine j_iconst C (v := -1) (by decide) d_TL_depositOf_10 ?_
  refine j_icmp_ne C d_TL_depositOf_11 rfl (fun c11 => ?_) (fun c11 => ?_)
  · have hf := o_if c11 hf
    refine j_aload_n C 1 rfl rfl d_TL_depositOf_18 ?_
    refine g_TL_state C (List.mem_cons_of_mem _ wd_1_218) d_TL_depositOf_19 ?_
    refine g_ST_deposits C (List.mem_cons_of_mem _ wd_1_122) d_TL_depositOf_22 ?_
    refine j_iload_n C 0 rfl rfl d_TL_depositOf_25 ?_
    obtain ⟨r26, h26, hf⟩ := o_b1 hf
    refine j_callV (ci := 9) (Cn := "java/util/ArrayList") (T := T_AL) (N := 3) C [.int r5] [] (m_AL_get_DL _ _ _ _ _ r5 σ h26) (gdV wd_3_106 wd_2_59 wd_2_60 wd_1_6 wc_AL_get) hy_AL_get rfl ⟨7, rfl⟩ rfl rfl (by decide) (by decide) (by decide) (by decide) (Nat.le_of_ble_eq_true rfl) d_TL_depositOf_26 (j_kA (r := r26) (σ1 := σ) ?_)
    obtain ⟨g29, hf⟩ := o_gn hf
    refine cc_Deposit C (Decidable.not_not.mp g29) (List.mem_cons_of_mem _ wd_3_160) d_TL_depositOf_29 ?_
    refine gp_Deposit_coins C (Decidable.not_not.mp g29) (List.mem_cons_of_mem _ wd_3_131) d_TL_depositOf_32 ?_
    have hf := Option.some.inj hf
    subst hf
    exact j_iret C Rt (Nat.zero_le _) (Nat.zero_le _) d_TL_depositOf_35 ⟨rfl, rfl⟩
  · have hf := o_it c11 hf
    refine j_iconst C (v := -1) (by decide) d_TL_depositOf_14 ?_
    refine j_goto C d_TL_depositOf_15 rfl ?_
    have hf := Option.some.inj hf
    subst hf
    exact j_iret C Rt (Nat.zero_le _) (Nat.zero_le _) d_TL_depositOf_35 ⟨rfl, rfl⟩
theorem d_TL_funds_0 : decode b_TL_funds 0 = .ok (.iload_n 1, 1) := by decide +kernel
theorem d_TL_funds_1 : decode b_TL_funds 1 = .ok (.invokestatic 43, 3) := by decide +kernel
theorem d_TL_funds_4 : decode b_TL_funds 4 = .ok (.ifCond .eq 25, 3) := by decide +kernel
theorem d_TL_funds_7 : decode b_TL_funds 7 = .ok (.aload_n 0, 1) := by decide +kernel
theorem d_TL_funds_8 : decode b_TL_funds 8 = .ok (.getfield 10, 3) := by decide +kernel
theorem d_TL_funds_11 : decode b_TL_funds 11 = .ok (.getfield 61, 3) := by decide +kernel
theorem d_TL_funds_14 : decode b_TL_funds 14 = .ok (.iload_n 1, 1) := by decide +kernel
theorem d_TL_funds_15 : decode b_TL_funds 15 = .ok (.aaload, 1) := by decide +kernel
theorem d_TL_funds_16 : decode b_TL_funds 16 = .ok (.getfield 65, 3) := by decide +kernel
theorem d_TL_funds_19 : decode b_TL_funds 19 = .ok (.ifCond .eq 10, 3) := by decide +kernel
theorem d_TL_funds_22 : decode b_TL_funds 22 = .ok (.iload_n 2, 1) := by decide +kernel
theorem d_TL_funds_23 : decode b_TL_funds 23 = .ok (.invokestatic 111, 3) := by decide +kernel
theorem d_TL_funds_26 : decode b_TL_funds 26 = .ok (.ifCond .ne 5, 3) := by decide +kernel
theorem d_TL_funds_29 : decode b_TL_funds 29 = .ok (.iconst (-1), 1) := by decide +kernel
theorem d_TL_funds_30 : decode b_TL_funds 30 = .ok (.ireturn, 1) := by decide +kernel
theorem d_TL_funds_31 : decode b_TL_funds 31 = .ok (.aload_n 0, 1) := by decide +kernel
theorem d_TL_funds_32 : decode b_TL_funds 32 = .ok (.getfield 10, 3) := by decide +kernel
theorem d_TL_funds_35 : decode b_TL_funds 35 = .ok (.iload_n 1, 1) := by decide +kernel
theorem d_TL_funds_36 : decode b_TL_funds 36 = .ok (.iload_n 2, 1) := by decide +kernel
theorem d_TL_funds_37 : decode b_TL_funds 37 = .ok (.invokevirtual 71, 3) := by decide +kernel
theorem d_TL_funds_40 : decode b_TL_funds 40 = .ok (.ireturn, 1) := by decide +kernel
def TL_funds (x1 : Int32) (x2 : Int32) (σ : ST) : Option (Int32) :=
  bd1 (TL_isAccount x1) fun r1 =>
  if r1 = 0 then (some (-1 : Int32))
  else (if x1 < 0 ∨ 6 ≤ x1.toNatClampNeg then none else
  bd1 (gR σ 0 x1.toNatClampNeg) fun q15 =>
  if ¬ (q15 ∈ pL σ ∧ pK σ q15 = 1) then none else
  if (pP σ q15 0) = 0 then (some (-1 : Int32))
  else (bd1 (TL_isAsset x2) fun r23 =>
  if r23 = 0 then (some (-1 : Int32))
  else (bd1 (ST_fundsOf x1 x2 σ) fun r37 =>
  some r37)))
set_option maxRecDepth 100000 in
set_option maxHeartbeats 4000000 in
theorem m_TL_funds (l : Launch) (D : va_G) (ad : Nat → Nat) (cs : Nat → ClassId) (eE : Nat × Nat) (x1 : Int32) (x2 : Int32) (σ : ST) {res : Int32} (hf : TL_funds x1 x2 σ = some res) : MS l y_TL_funds (Cond.code y_TL_funds b_TL_funds 3 r_TL_funds :: BIG) 6 131 0 0 (wfm ad cs) D (ttf cs) eE [.ref (ad 0), .int x1, .int x2] σ (PI res σ) := by
  refine MS.of (cc := b_TL_funds) (maxL := 3) (ret := r_TL_funds) (by decide) rfl (Nat.le_of_ble_eq_true rfl) (loc := [(0, .ref (ad 0)), (1, .int x1), (2, .int x2)]) rfl (fun X C Rt => ?_)
  unfold TL_funds at hf
  refine j_iload_n C 1 rfl rfl d_TL_funds_0 ?_
  obtain ⟨r1, h1, hf⟩ := o_b1 hf
  refine j_callS C [.int x1] [] (m_TL_isAccount _ _ _ _ _ x1 σ h1) (gdS wd_2_13 wd_2_14 wd_1_1 wc_TL_isAccount) hy_TL_isAccount rfl rfl (by decide) (by decide) (by decide) (by decide) (Nat.le_of_ble_eq_true rfl) d_TL_funds_1 (j_kI (r := r1) (σ1 := σ) ?_)
  refine j_if_eq C d_TL_funds_4 rfl (fun c4 => ?_) (fun c4 => ?_)
  · have hf := o_it c4 hf
    refine j_iconst C (v := -1) (by decide) d_TL_funds_29 ?_
    have hf := Option.some.inj hf
    subst hf
    exact j_iret C Rt (Nat.zero_le _) (Nat.zero_le _) d_TL_funds_30 ⟨rfl, rfl⟩
  · have hf := o_if c4 hf
    refine j_aload_n C 0 rfl rfl d_TL_funds_7 ?_
    refine g_TL_state C (List.mem_cons_of_mem _ wd_1_218) d_TL_funds_8 ?_
    refine g_ST_accounts C (List.mem_cons_of_mem _ wd_1_112) d_TL_funds_11 ?_
    refine j_iload_n C 1 rfl rfl d_TL_funds_14 ?_
    obtain ⟨g15, hf⟩ := o_gn hf
    obtain ⟨q15, hq15, hf⟩ := o_b1 hf
    refine la_acc C g15 hq15 d_TL_funds_15 ?_
    obtain ⟨g16, hf⟩ := o_gn hf
    refine gp_Account_exists C (Decidable.not_not.mp g16) (List.mem_cons_of_mem _ wd_1_91) d_TL_funds_16 ?_
    refine j_if_eq C d_TL_funds_19 rfl (fun c19 => ?_) (fun c19 => ?_)
    · have hf := o_it c19 hf
      refine j_iconst C (v := -1) (by decide) d_TL_funds_29 ?_
      have hf := Option.some.inj hf
      subst hf
      exact j_iret C Rt (Nat.zero_le _) (Nat.zero_le _) d_TL_funds_30 ⟨rfl, rfl⟩
    · have hf := o_if c19 hf
      refine j_iload_n C 2 rfl rfl d_TL_funds_22 ?_
      obtain ⟨r23, h23, hf⟩ := o_b1 hf
      refine j_callS C [.int x2] [] (m_TL_isAsset _ _ _ _ _ x2 σ h23) (gdS wd_2_115 wd_2_116 wd_1_1 wc_TL_isAsset) hy_TL_isAsset rfl rfl (by decide) (by decide) (by decide) (by decide) (Nat.le_of_ble_eq_true rfl) d_TL_funds_23 (j_kI (r := r23) (σ1 := σ) ?_)
      refine j_if_ne C d_TL_funds_26 rfl (fun c26 => ?_) (fun c26 => ?_)
      · have hf := o_if c26 hf
        refine j_aload_n C 0 rfl rfl d_TL_funds_31 ?_
        refine g_TL_state C (List.mem_cons_of_mem _ wd_1_218) d_TL_funds_32 ?_
        refine j_iload_n C 1 rfl rfl d_TL_funds_35 ?_
        refine j_iload_n C 2 rfl rfl d_TL_funds_36 ?_
        obtain ⟨r37, h37, hf⟩ := o_b1 hf
        refine j_callV (ci := 1) (Cn := "TollLedger$State") (T := T_ST) (N := 6) C [.int x1, .int x2] [] (m_ST_fundsOf _ _ _ _ _ x1 x2 σ h37) (gdV wd_2_31 wd_2_32 wd_2_33 wd_1_2 wc_ST_fundsOf) hy_ST_fundsOf rfl ⟨1, rfl⟩ rfl rfl (by decide) (by decide) (by decide) (by decide) (Nat.le_of_ble_eq_true rfl) d_TL_funds_37 (j_kI (r := r37) (σ1 := σ) ?_)
        have hf := Option.some.inj hf
        subst hf
        exact j_iret C Rt (Nat.zero_le _) (Nat.zero_le _) d_TL_funds_40 ⟨rfl, rfl⟩
      · have hf := o_it c26 hf
        refine j_iconst C (v := -1) (by decide) d_TL_funds_29 ?_
        have hf := Option.some.inj hf
        subst hf
        exact j_iret C Rt (Nat.zero_le _) (Nat.zero_le _) d_TL_funds_30 ⟨rfl, rfl⟩
theorem d_TL_isHushed_0 : decode b_TL_isHushed 0 = .ok (.iload_n 1, 1) := by decide +kernel
theorem d_TL_isHushed_1 : decode b_TL_isHushed 1 = .ok (.invokestatic 259, 3) := by decide +kernel
theorem d_TL_isHushed_4 : decode b_TL_isHushed 4 = .ok (.istore_n 3, 1) := by decide +kernel
theorem d_TL_isHushed_5 : decode b_TL_isHushed 5 = .ok (.iload_n 1, 1) := by decide +kernel
theorem d_TL_isHushed_6 : decode b_TL_isHushed 6 = .ok (.invokestatic 262, 3) := by decide +kernel
theorem d_TL_isHushed_9 : decode b_TL_isHushed 9 = .ok (.istore 4, 2) := by decide +kernel
theorem d_TL_isHushed_11 : decode b_TL_isHushed 11 = .ok (.aload_n 0, 1) := by decide +kernel
theorem d_TL_isHushed_12 : decode b_TL_isHushed 12 = .ok (.getfield 10, 3) := by decide +kernel
theorem d_TL_isHushed_15 : decode b_TL_isHushed 15 = .ok (.getfield 89, 3) := by decide +kernel
theorem d_TL_isHushed_18 : decode b_TL_isHushed 18 = .ok (.getfield 104, 3) := by decide +kernel
theorem d_TL_isHushed_21 : decode b_TL_isHushed 21 = .ok (.iload_n 3, 1) := by decide +kernel
theorem d_TL_isHushed_22 : decode b_TL_isHushed 22 = .ok (.aload_n 0, 1) := by decide +kernel
theorem d_TL_isHushed_23 : decode b_TL_isHushed 23 = .ok (.getfield 32, 3) := by decide +kernel
theorem d_TL_isHushed_26 : decode b_TL_isHushed 26 = .ok (.iload 4, 2) := by decide +kernel
theorem d_TL_isHushed_28 : decode b_TL_isHushed 28 = .ok (.invokestatic 83, 3) := by decide +kernel
theorem d_TL_isHushed_31 : decode b_TL_isHushed 31 = .ok (.baload, 1) := by decide +kernel
theorem d_TL_isHushed_32 : decode b_TL_isHushed 32 = .ok (.ifCond .eq 28, 3) := by decide +kernel
theorem d_TL_isHushed_35 : decode b_TL_isHushed 35 = .ok (.aload_n 0, 1) := by decide +kernel
theorem d_TL_isHushed_36 : decode b_TL_isHushed 36 = .ok (.getfield 10, 3) := by decide +kernel
theorem d_TL_isHushed_39 : decode b_TL_isHushed 39 = .ok (.getfield 89, 3) := by decide +kernel
theorem d_TL_isHushed_42 : decode b_TL_isHushed 42 = .ok (.getfield 104, 3) := by decide +kernel
theorem d_TL_isHushed_45 : decode b_TL_isHushed 45 = .ok (.iload_n 3, 1) := by decide +kernel
theorem d_TL_isHushed_46 : decode b_TL_isHushed 46 = .ok (.iload_n 2, 1) := by decide +kernel
theorem d_TL_isHushed_47 : decode b_TL_isHushed 47 = .ok (.iload 4, 2) := by decide +kernel
theorem d_TL_isHushed_49 : decode b_TL_isHushed 49 = .ok (.invokestatic 83, 3) := by decide +kernel
theorem d_TL_isHushed_52 : decode b_TL_isHushed 52 = .ok (.baload, 1) := by decide +kernel
theorem d_TL_isHushed_53 : decode b_TL_isHushed 53 = .ok (.ifCond .eq 7, 3) := by decide +kernel
theorem d_TL_isHushed_56 : decode b_TL_isHushed 56 = .ok (.iconst 1, 1) := by decide +kernel
theorem d_TL_isHushed_57 : decode b_TL_isHushed 57 = .ok (.goto 4, 3) := by decide +kernel
theorem d_TL_isHushed_60 : decode b_TL_isHushed 60 = .ok (.iconst 0, 1) := by decide +kernel
theorem d_TL_isHushed_61 : decode b_TL_isHushed 61 = .ok (.ireturn, 1) := by decide +kernel
def TL_isHushed (x1 : Int32) (x2 : Int32) (σ : ST) : Option (Int32) :=
  bd1 (TL_issuerOf x1) fun r1 =>
  bd1 (TL_currencyOf x1) fun r6 =>
  bd1 (LN_side r1 (gI σ 0) r6) fun r28 =>
  if r28 < 0 ∨ 72 ≤ r28.toNatClampNeg then none else
  if (gA σ 2 r28.toNatClampNeg) = 0 then (some (0 : Int32))
  else (bd1 (LN_side r1 x2 r6) fun r49 =>
  if r49 < 0 ∨ 72 ≤ r49.toNatClampNeg then none else
  if (gA σ 2 r49.toNatClampNeg) = 0 then (some (0 : Int32))
  else (some (1 : Int32)))
set_option maxRecDepth 100000 in
set_option maxHeartbeats 4000000 in
theorem m_TL_isHushed (l : Launch) (D : va_G) (ad : Nat → Nat) (cs : Nat → ClassId) (eE : Nat × Nat) (x1 : Int32) (x2 : Int32) (σ : ST) {res : Int32} (hf : TL_isHushed x1 x2 σ = some res) : MS l y_TL_isHushed (Cond.code y_TL_isHushed b_TL_isHushed 5 r_TL_isHushed :: BIG) 1 22 0 0 (wfm ad cs) D (ttf cs) eE [.ref (ad 0), .int x1, .int x2] σ (PI res σ) := by
  refine MS.of (cc := b_TL_isHushed) (maxL := 5) (ret := r_TL_isHushed) (by decide) rfl (Nat.le_of_ble_eq_true rfl) (loc := [(0, .ref (ad 0)), (1, .int x1), (2, .int x2)]) rfl (fun X C Rt => ?_)
  unfold TL_isHushed at hf
  refine j_iload_n C 1 rfl rfl d_TL_isHushed_0 ?_
  obtain ⟨r1, h1, hf⟩ := o_b1 hf
  refine j_callS C [.int x1] [] (m_TL_issuerOf _ _ _ _ _ x1 σ h1) (gdS wd_2_152 wd_2_78 wd_1_1 wc_TL_issuerOf) hy_TL_issuerOf rfl rfl (by decide) (by decide) (by decide) (by decide) (Nat.le_of_ble_eq_true rfl) d_TL_isHushed_1 (j_kI (r := r1) (σ1 := σ) ?_)
  refine j_istore_n C rfl (by decide) (loc' := [(3, .int r1), (0, .ref (ad 0)), (1, .int x1), (2, .int x2)]) rfl d_TL_isHushed_4 ?_
  refine j_iload_n C 2 rfl rfl d_TL_isHushed_5 ?_
  obtain ⟨r6, h6, hf⟩ := o_b1 hf
  refine j_callS C [.int x1] [] (m_TL_currencyOf _ _ _ _ _ x1 σ h6) (gdS wd_2_153 wd_2_82 wd_1_1 wc_TL_currencyOf) hy_TL_currencyOf rfl rfl (by decide) (by decide) (by decide) (by decide) (Nat.le_of_ble_eq_true rfl) d_TL_isHushed_6 (j_kI (r := r6) (σ1 := σ) ?_)
  refine j_istore C (by decide) (loc' := [(4, .int r6), (3, .int r1), (0, .ref (ad 0)), (1, .int x1), (2, .int x2)]) rfl d_TL_isHushed_9 ?_
  refine j_aload_n C 2 rfl rfl d_TL_isHushed_11 ?_
  refine g_TL_state C (List.mem_cons_of_mem _ wd_1_218) d_TL_isHushed_12 ?_
  refine g_ST_lines C (List.mem_cons_of_mem _ wd_1_115) d_TL_isHushed_15 ?_
  refine g_LN_quiets C (List.mem_cons_of_mem _ wd_1_48) d_TL_isHushed_18 ?_
  refine j_iload_n C 1 rfl rfl d_TL_isHushed_21 ?_
  refine j_aload_n C 2 rfl rfl d_TL_isHushed_22 ?_
  refine g_TL_signer C (List.mem_cons_of_mem _ wd_1_221) d_TL_isHushed_23 ?_
  refine j_iload C 0 rfl d_TL_isHushed_26 ?_
  obtain ⟨r28, h28, hf⟩ := o_b1 hf
  refine j_callS C [.int r1, .int (gI σ 0), .int r6] [.ref (ad 11)] (m_LN_side _ _ _ _ _ r1 (gI σ 0) r6 σ h28) (gdS wd_2_101 wd_2_48 wd_1_3 wc_LN_side) hy_LN_side rfl rfl (by decide) (by decide) (by decide) (by decide) (Nat.le_of_ble_eq_true rfl) d_TL_isHushed_28 (j_kI (r := r28) (σ1 := σ) ?_)
  obtain ⟨g31, hf⟩ := o_gn hf
  refine la_qui C g31 d_TL_isHushed_31 ?_
  refine j_if_eq C d_TL_isHushed_32 rfl (fun c32 => ?_) (fun c32 => ?_)
  · have hf := o_it c32 hf
    refine j_iconst C (v := 0) (by decide) d_TL_isHushed_60 ?_
    have hf := Option.some.inj hf
    subst hf
    exact j_zret C Rt (by decide) (Nat.zero_le _) (Nat.zero_le _) d_TL_isHushed_61 ⟨rfl, rfl⟩
  · have hf := o_if c32 hf
    refine j_aload_n C 2 rfl rfl d_TL_isHushed_35 ?_
    refine g_TL_state C (List.mem_cons_of_mem _ wd_1_218) d_TL_isHushed_36 ?_
    refine g_ST_lines C (List.mem_cons_of_mem _ wd_1_115) d_TL_isHushed_39 ?_
    refine g_LN_quiets C (List.mem_cons_of_mem _ wd_1_48) d_TL_isHushed_42 ?_
    refine j_iload_n C 1 rfl rfl d_TL_isHushed_45 ?_
    refine j_iload_n C 4 rfl rfl d_TL_isHushed_46 ?_
    refine j_iload C 0 rfl d_TL_isHushed_47 ?_
    obtain ⟨r49, h49, hf⟩ := o_b1 hf
    refine j_callS C [.int r1, .int x2, .int r6] [.ref (ad 11)] (m_LN_side _ _ _ _ _ r1 x2 r6 σ h49) (gdS wd_2_101 wd_2_48 wd_1_3 wc_LN_side) hy_LN_side rfl rfl (by decide) (by decide) (by decide) (by decide) (Nat.le_of_ble_eq_true rfl) d_TL_isHushed_49 (j_kI (r := r49) (σ1 := σ) ?_)
    obtain ⟨g52, hf⟩ := o_gn hf
    refine la_qui C g52 d_TL_isHushed_52 ?_
    refine j_if_eq C d_TL_isHushed_53 rfl (fun c53 => ?_) (fun c53 => ?_)
    · have hf := o_it c53 hf
      refine j_iconst C (v := 0) (by decide) d_TL_isHushed_60 ?_
      have hf := Option.some.inj hf
      subst hf
      exact j_zret C Rt (by decide) (Nat.zero_le _) (Nat.zero_le _) d_TL_isHushed_61 ⟨rfl, rfl⟩
    · have hf := o_if c53 hf
      refine j_iconst C (v := 1) (by decide) d_TL_isHushed_56 ?_
      refine j_goto C d_TL_isHushed_57 rfl ?_
      have hf := Option.some.inj hf
      subst hf
      exact j_zret C Rt (by decide) (Nat.zero_le _) (Nat.zero_le _) d_TL_isHushed_61 ⟨rfl, rfl⟩
theorem d_TL_spendingFor_0 : decode b_TL_spendingFor 0 = .ok (.iload_n 2, 1) := by decide +kernel
theorem d_TL_spendingFor_1 : decode b_TL_spendingFor 1 = .ok (.invokestatic 259, 3) := by decide +kernel
theorem d_TL_spendingFor_4 : decode b_TL_spendingFor 4 = .ok (.istore 5, 2) := by decide +kernel
theorem d_TL_spendingFor_6 : decode b_TL_spendingFor 6 = .ok (.iload_n 1, 1) := by decide +kernel
theorem d_TL_spendingFor_7 : decode b_TL_spendingFor 7 = .ok (.iload 5, 2) := by decide +kernel
theorem d_TL_spendingFor_9 : decode b_TL_spendingFor 9 = .ok (.if_icmp .eq 29, 3) := by decide +kernel
theorem d_TL_spendingFor_12 : decode b_TL_spendingFor 12 = .ok (.aload_n 0, 1) := by decide +kernel
theorem d_TL_spendingFor_13 : decode b_TL_spendingFor 13 = .ok (.getfield 10, 3) := by decide +kernel
theorem d_TL_spendingFor_16 : decode b_TL_spendingFor 16 = .ok (.getfield 89, 3) := by decide +kernel
theorem d_TL_spendingFor_19 : decode b_TL_spendingFor 19 = .ok (.iload_n 1, 1) := by decide +kernel
theorem d_TL_spendingFor_20 : decode b_TL_spendingFor 20 = .ok (.iload 5, 2) := by decide +kernel
theorem d_TL_spendingFor_22 : decode b_TL_spendingFor 22 = .ok (.iload_n 2, 1) := by decide +kernel
theorem d_TL_spendingFor_23 : decode b_TL_spendingFor 23 = .ok (.invokestatic 262, 3) := by decide +kernel
theorem d_TL_spendingFor_26 : decode b_TL_spendingFor 26 = .ok (.invokestatic 83, 3) := by decide +kernel
theorem d_TL_spendingFor_29 : decode b_TL_spendingFor 29 = .ok (.iload_n 3, 1) := by decide +kernel
theorem d_TL_spendingFor_30 : decode b_TL_spendingFor 30 = .ok (.invokevirtual 265, 3) := by decide +kernel
theorem d_TL_spendingFor_33 : decode b_TL_spendingFor 33 = .ok (.ifCond .ne 5, 3) := by decide +kernel
theorem d_TL_spendingFor_36 : decode b_TL_spendingFor 36 = .ok (.iconst (-1), 1) := by decide +kernel
theorem d_TL_spendingFor_37 : decode b_TL_spendingFor 37 = .ok (.ireturn, 1) := by decide +kernel
theorem d_TL_spendingFor_38 : decode b_TL_spendingFor 38 = .ok (.aload_n 0, 1) := by decide +kernel
theorem d_TL_spendingFor_39 : decode b_TL_spendingFor 39 = .ok (.getfield 10, 3) := by decide +kernel
theorem d_TL_spendingFor_42 : decode b_TL_spendingFor 42 = .ok (.iload_n 3, 1) := by decide +kernel
theorem d_TL_spendingFor_43 : decode b_TL_spendingFor 43 = .ok (.iload_n 2, 1) := by decide +kernel
theorem d_TL_spendingFor_44 : decode b_TL_spendingFor 44 = .ok (.aload_n 0, 1) := by decide +kernel
theorem d_TL_spendingFor_45 : decode b_TL_spendingFor 45 = .ok (.getfield 32, 3) := by decide +kernel
theorem d_TL_spendingFor_48 : decode b_TL_spendingFor 48 = .ok (.iload_n 1, 1) := by decide +kernel
theorem d_TL_spendingFor_49 : decode b_TL_spendingFor 49 = .ok (.invokevirtual 268, 3) := by decide +kernel
theorem d_TL_spendingFor_52 : decode b_TL_spendingFor 52 = .ok (.istore 6, 2) := by decide +kernel
theorem d_TL_spendingFor_54 : decode b_TL_spendingFor 54 = .ok (.aload_n 0, 1) := by decide +kernel
theorem d_TL_spendingFor_55 : decode b_TL_spendingFor 55 = .ok (.getfield 36, 3) := by decide +kernel
theorem d_TL_spendingFor_58 : decode b_TL_spendingFor 58 = .ok (.iload_n 2, 1) := by decide +kernel
theorem d_TL_spendingFor_59 : decode b_TL_spendingFor 59 = .ok (.if_icmp .ne 26, 3) := by decide +kernel
theorem d_TL_spendingFor_62 : decode b_TL_spendingFor 62 = .ok (.aload_n 0, 1) := by decide +kernel
theorem d_TL_spendingFor_63 : decode b_TL_spendingFor 63 = .ok (.iload_n 2, 1) := by decide +kernel
theorem d_TL_spendingFor_64 : decode b_TL_spendingFor 64 = .ok (.iload_n 1, 1) := by decide +kernel
theorem d_TL_spendingFor_65 : decode b_TL_spendingFor 65 = .ok (.invokevirtual 271, 3) := by decide +kernel
theorem d_TL_spendingFor_68 : decode b_TL_spendingFor 68 = .ok (.ifCond .ne 10, 3) := by decide +kernel
theorem d_TL_spendingFor_71 : decode b_TL_spendingFor 71 = .ok (.iload 6, 2) := by decide +kernel
theorem d_TL_spendingFor_73 : decode b_TL_spendingFor 73 = .ok (.iload 4, 2) := by decide +kernel
theorem d_TL_spendingFor_75 : decode b_TL_spendingFor 75 = .ok (.if_icmp .le 7, 3) := by decide +kernel
theorem d_TL_spendingFor_78 : decode b_TL_spendingFor 78 = .ok (.iconst (-1), 1) := by decide +kernel
theorem d_TL_spendingFor_79 : decode b_TL_spendingFor 79 = .ok (.goto 5, 3) := by decide +kernel
theorem d_TL_spendingFor_82 : decode b_TL_spendingFor 82 = .ok (.iload 6, 2) := by decide +kernel
theorem d_TL_spendingFor_84 : decode b_TL_spendingFor 84 = .ok (.ireturn, 1) := by decide +kernel
theorem d_TL_spendingFor_85 : decode b_TL_spendingFor 85 = .ok (.aload_n 0, 1) := by decide +kernel
theorem d_TL_spendingFor_86 : decode b_TL_spendingFor 86 = .ok (.getfield 21, 3) := by decide +kernel
theorem d_TL_spendingFor_89 : decode b_TL_spendingFor 89 = .ok (.iload 6, 2) := by decide +kernel
theorem d_TL_spendingFor_91 : decode b_TL_spendingFor 91 = .ok (.invokevirtual 274, 3) := by decide +kernel
theorem d_TL_spendingFor_94 : decode b_TL_spendingFor 94 = .ok (.aload_n 0, 1) := by decide +kernel
theorem d_TL_spendingFor_95 : decode b_TL_spendingFor 95 = .ok (.getfield 21, 3) := by decide +kernel
theorem d_TL_spendingFor_98 : decode b_TL_spendingFor 98 = .ok (.getfield 138, 3) := by decide +kernel
theorem d_TL_spendingFor_101 : decode b_TL_spendingFor 101 = .ok (.iload 6, 2) := by decide +kernel
theorem d_TL_spendingFor_103 : decode b_TL_spendingFor 103 = .ok (.if_icmp .lt 15, 3) := by decide +kernel
theorem d_TL_spendingFor_106 : decode b_TL_spendingFor 106 = .ok (.aload_n 0, 1) := by decide +kernel
theorem d_TL_spendingFor_107 : decode b_TL_spendingFor 107 = .ok (.getfield 21, 3) := by decide +kernel
theorem d_TL_spendingFor_110 : decode b_TL_spendingFor 110 = .ok (.getfield 148, 3) := by decide +kernel
theorem d_TL_spendingFor_113 : decode b_TL_spendingFor 113 = .ok (.iload 4, 2) := by decide +kernel
theorem d_TL_spendingFor_115 : decode b_TL_spendingFor 115 = .ok (.if_icmp .le 7, 3) := by decide +kernel
theorem d_TL_spendingFor_118 : decode b_TL_spendingFor 118 = .ok (.iconst (-1), 1) := by decide +kernel
theorem d_TL_spendingFor_119 : decode b_TL_spendingFor 119 = .ok (.goto 10, 3) := by decide +kernel
theorem d_TL_spendingFor_122 : decode b_TL_spendingFor 122 = .ok (.aload_n 0, 1) := by decide +kernel
theorem d_TL_spendingFor_123 : decode b_TL_spendingFor 123 = .ok (.getfield 21, 3) := by decide +kernel
theorem d_TL_spendingFor_126 : decode b_TL_spendingFor 126 = .ok (.getfield 148, 3) := by decide +kernel
theorem d_TL_spendingFor_129 : decode b_TL_spendingFor 129 = .ok (.ireturn, 1) := by decide +kernel
def TL_spendingFor_c38 (x1 : Int32) (x2 : Int32) (x3 : Int32) (x4 : Int32) (σ : ST) : Option (Int32 × ST) :=
  bd1 (ST_costOf x3 x2 (gI σ 0) x1 σ) fun r49 =>
  if (gI σ 2) = x2 then (bd1 (TL_isHushed x2 x1 σ) fun r65 =>
  if r65 = 0 then (if r49 ≤ x4 then (some (r49, σ))
  else (some ((-1 : Int32), σ)))
  else (some ((-1 : Int32), σ)))
  else (bd1 (TK_planAll r49 σ) fun σ91 =>
  if (gI σ91 14) < r49 then (some ((-1 : Int32), σ91))
  else (if (gI σ91 16) ≤ x4 then (some ((gI σ91 16), σ91))
  else (some ((-1 : Int32), σ91))))
set_option maxRecDepth 100000 in
set_option maxHeartbeats 4000000 in
theorem w_TL_spendingFor_c38 {X : JX} (C : JC X l D (ttf cs) eE b_TL_spendingFor "TollLedger" 7 (Cond.code y_TL_spendingFor b_TL_spendingFor 7 r_TL_spendingFor :: BIG) 5 118 0 0) {res : Int32 × ST} (Rt : JR X (wfm ad cs) 0 0 (PI res.1 res.2) r_TL_spendingFor "spendingFor")  (x1 : Int32) (x2 : Int32) (x3 : Int32) (x4 : Int32) (σ : ST) (hf : TL_spendingFor_c38 x1 x2 x3 x4 σ = some res) : J (wfm ad cs) X 7 0 0 σ 38 [(0, .ref (ad 0)), (1, .int x1), (2, .int x2), (3, .int x3), (4, .int x4)] [] := by
  unfold TL_spendingFor_c38 at hf
  refine j_aload_n C 0 rfl rfl d_TL_spendingFor_38 ?_
  refine g_TL_state C (List.mem_cons_of_mem _ wd_1_218) d_TL_spendingFor_39 ?_
  refine j_iload_n C 3 rfl rfl d_TL_spendingFor_42 ?_
  refine j_iload_n C 2 rfl rfl d_TL_spendingFor_43 ?_
  refine j_aload_n C 0 rfl rfl d_TL_spendingFor_44 ?_
  refine g_TL_signer C (List.mem_cons_of_mem _ wd_1_221) d_TL_spendingFor_45 ?_
  refine j_iload_n C 1 rfl rfl d_TL_spendingFor_48 ?_
  obtain ⟨r49, h49, hf⟩ := o_b1 hf
  refine j_callV (ci := 1) (Cn := "TollLedger$State") (T := T_ST) (N := 6) C [.int x3, .int x2, .int (gI σ 0), .int x1] [] (m_ST_costOf _ _ _ _ _ x3 x2 (gI σ 0) x1 σ h49) (gdV wd_2_158 wd_2_159 wd_2_160 wd_1_2 wc_ST_costOf) hy_ST_costOf rfl ⟨1, rfl⟩ rfl rfl (by decide) (by decide) (by decide) (by decide) (Nat.le_of_ble_eq_true rfl) d_TL_spendingFor_49 (j_kI (r := r49) (σ1 := σ) ?_)
  refine j_istore C (by decide) (loc' := [(6, .int r49), (0, .ref (ad 0)), (1, .int x1), (2, .int x2), (3, .int x3), (4, .int x4)]) rfl d_TL_spendingFor_52 ?_
  refine j_aload_n C 1 rfl rfl d_TL_spendingFor_54 ?_
  refine g_TL_spendAsset C (List.mem_cons_of_mem _ wd_1_223) d_TL_spendingFor_55 ?_
  refine j_iload_n C 3 rfl rfl d_TL_spendingFor_58 ?_
  refine j_icmp_ne C d_TL_spendingFor_59 rfl (fun c59 => ?_) (fun c59 => ?_)
  · have hf := o_if c59 hf
    refine j_aload_n C 1 rfl rfl d_TL_spendingFor_85 ?_
    refine g_TL_taking C (List.mem_cons_of_mem _ wd_1_219) d_TL_spendingFor_86 ?_
    refine j_iload C 0 rfl d_TL_spendingFor_89 ?_
    obtain ⟨σ91, h91, hf⟩ := o_b1 hf
    refine j_callV (ci := 4) (Cn := "TollLedger$Taking") (T := T_TK) (N := 13) C [.int r49] [] (m_TK_planAll _ _ _ _ _ r49 σ h91) (gdV wd_2_172 wd_2_173 wd_2_174 wd_1_8 wc_TK_planAll) hy_TK_planAll rfl ⟨4, rfl⟩ rfl rfl (by decide) (by decide) (by decide) (by decide) (Nat.le_of_ble_eq_true rfl) d_TL_spendingFor_91 (j_kV (σ1 := σ91) ?_)
    refine j_aload_n C 1 rfl rfl d_TL_spendingFor_94 ?_
    refine g_TL_taking C (List.mem_cons_of_mem _ wd_1_219) d_TL_spendingFor_95 ?_
    refine g_TK_taken C (List.mem_cons_of_mem _ wd_1_175) d_TL_spendingFor_98 ?_
    refine j_iload C 0 rfl d_TL_spendingFor_101 ?_
    refine j_icmp_lt C d_TL_spendingFor_103 rfl (fun c103 => ?_) (fun c103 => ?_)
    · have hf := o_it c103 hf
      refine j_iconst C (v := -1) (by decide) d_TL_spendingFor_118 ?_
      refine j_goto C d_TL_spendingFor_119 rfl ?_
      have hf := Option.some.inj hf
      subst hf
      exact j_iret C Rt (Nat.zero_le _) (Nat.zero_le _) d_TL_spendingFor_129 ⟨rfl, rfl⟩
    · have hf := o_if c103 hf
      refine j_aload_n C 1 rfl rfl d_TL_spendingFor_106 ?_
      refine g_TL_taking C (List.mem_cons_of_mem _ wd_1_219) d_TL_spendingFor_107 ?_
      refine g_TK_cost C (List.mem_cons_of_mem _ wd_1_179) d_TL_spendingFor_110 ?_
      refine j_iload C 5 rfl d_TL_spendingFor_113 ?_
      refine j_icmp_le C d_TL_spendingFor_115 rfl (fun c115 => ?_) (fun c115 => ?_)
      · have hf := o_it c115 hf
        refine j_aload_n C 1 rfl rfl d_TL_spendingFor_122 ?_
        refine g_TL_taking C (List.mem_cons_of_mem _ wd_1_219) d_TL_spendingFor_123 ?_
        refine g_TK_cost C (List.mem_cons_of_mem _ wd_1_179) d_TL_spendingFor_126 ?_
        have hf := Option.some.inj hf
        subst hf
        exact j_iret C Rt (Nat.zero_le _) (Nat.zero_le _) d_TL_spendingFor_129 ⟨rfl, rfl⟩
      · have hf := o_if c115 hf
        refine j_iconst C (v := -1) (by decide) d_TL_spendingFor_118 ?_
        refine j_goto C d_TL_spendingFor_119 rfl ?_
        have hf := Option.some.inj hf
        subst hf
        exact j_iret C Rt (Nat.zero_le _) (Nat.zero_le _) d_TL_spendingFor_129 ⟨rfl, rfl⟩
  · have hf := o_it c59 hf
    refine j_aload_n C 1 rfl rfl d_TL_spendingFor_62 ?_
    refine j_iload_n C 3 rfl rfl d_TL_spendingFor_63 ?_
    refine j_iload_n C 2 rfl rfl d_TL_spendingFor_64 ?_
    obtain ⟨r65, h65, hf⟩ := o_b1 hf
    refine j_callV (ci := 0) (Cn := "TollLedger") (T := T_TL) (N := 10) C [.int x2, .int x1] [] (m_TL_isHushed _ _ _ _ _ x2 x1 σ h65) (gdV wd_2_168 wd_2_170 wp_7 wd_1_1 wc_TL_isHushed) hy_TL_isHushed rfl ⟨0, rfl⟩ rfl rfl (by decide) (by decide) (by decide) (by decide) (Nat.le_of_ble_eq_true rfl) d_TL_spendingFor_65 (j_kI (r := r65) (σ1 := σ) ?_)
    refine j_if_ne C d_TL_spendingFor_68 rfl (fun c68 => ?_) (fun c68 => ?_)
    · have hf := o_if c68 hf
      refine j_iconst C (v := -1) (by decide) d_TL_spendingFor_78 ?_
      refine j_goto C d_TL_spendingFor_79 rfl ?_
      have hf := Option.some.inj hf
      subst hf
      exact j_iret C Rt (Nat.zero_le _) (Nat.zero_le _) d_TL_spendingFor_84 ⟨rfl, rfl⟩
    · have hf := o_it c68 hf
      refine j_iload C 0 rfl d_TL_spendingFor_71 ?_
      refine j_iload C 5 rfl d_TL_spendingFor_73 ?_
      refine j_icmp_le C d_TL_spendingFor_75 rfl (fun c75 => ?_) (fun c75 => ?_)
      · have hf := o_it c75 hf
        refine j_iload C 0 rfl d_TL_spendingFor_82 ?_
        have hf := Option.some.inj hf
        subst hf
        exact j_iret C Rt (Nat.zero_le _) (Nat.zero_le _) d_TL_spendingFor_84 ⟨rfl, rfl⟩
      · have hf := o_if c75 hf
        refine j_iconst C (v := -1) (by decide) d_TL_spendingFor_78 ?_
        refine j_goto C d_TL_spendingFor_79 rfl ?_
        have hf := Option.some.inj hf
        subst hf
        exact j_iret C Rt (Nat.zero_le _) (Nat.zero_le _) d_TL_spendingFor_84 ⟨rfl, rfl⟩
def TL_spendingFor (x1 : Int32) (x2 : Int32) (x3 : Int32) (x4 : Int32) (σ : ST) : Option (Int32 × ST) :=
  bd1 (TL_issuerOf x2) fun r1 =>
  if x1 = r1 then (TL_spendingFor_c38 x1 x2 x3 x4 σ)
  else (bd1 (TL_currencyOf x2) fun r23 =>
  bd1 (LN_side x1 r1 r23) fun r26 =>
  bd1 (LN_hasRoom r26 x3 σ) fun r30 =>
  if r30 = 0 then (some ((-1 : Int32), σ))
  else (TL_spendingFor_c38 x1 x2 x3 x4 σ))
set_option maxRecDepth 100000 in
set_option maxHeartbeats 4000000 in
theorem m_TL_spendingFor (l : Launch) (D : va_G) (ad : Nat → Nat) (cs : Nat → ClassId) (eE : Nat × Nat) (x1 : Int32) (x2 : Int32) (x3 : Int32) (x4 : Int32) (σ : ST) {res : Int32 × ST} (hf : TL_spendingFor x1 x2 x3 x4 σ = some res) : MS l y_TL_spendingFor (Cond.code y_TL_spendingFor b_TL_spendingFor 7 r_TL_spendingFor :: BIG) 5 118 0 0 (wfm ad cs) D (ttf cs) eE [.ref (ad 0), .int x1, .int x2, .int x3, .int x4] σ (PI res.1 res.2) := by
  refine MS.of (cc := b_TL_spendingFor) (maxL := 7) (ret := r_TL_spendingFor) (by decide) rfl (Nat.le_of_ble_eq_true rfl) (loc := [(0, .ref (ad 0)), (1, .int x1), (2, .int x2), (3, .int x3), (4, .int x4)]) rfl (fun X C Rt => ?_)
  unfold TL_spendingFor at hf
  refine j_iload_n C 2 rfl rfl d_TL_spendingFor_0 ?_
  obtain ⟨r1, h1, hf⟩ := o_b1 hf
  refine j_callS C [.int x2] [] (m_TL_issuerOf _ _ _ _ _ x2 σ h1) (gdS wd_2_152 wd_2_78 wd_1_1 wc_TL_issuerOf) hy_TL_issuerOf rfl rfl (by decide) (by decide) (by decide) (by decide) (Nat.le_of_ble_eq_true rfl) d_TL_spendingFor_1 (j_kI (r := r1) (σ1 := σ) ?_)
  refine j_istore C (by decide) (loc' := [(5, .int r1), (0, .ref (ad 0)), (1, .int x1), (2, .int x2), (3, .int x3), (4, .int x4)]) rfl d_TL_spendingFor_4 ?_
  refine j_iload_n C 2 rfl rfl d_TL_spendingFor_6 ?_
  refine j_iload C 0 rfl d_TL_spendingFor_7 ?_
  refine j_icmp_eq C d_TL_spendingFor_9 rfl (fun c9 => ?_) (fun c9 => ?_)
  · have hf := o_it c9 hf
    refine j_sub [1, 2, 3, 4, 5] rfl ?_
    exact w_TL_spendingFor_c38 C Rt  x1 x2 x3 x4 σ hf
  · have hf := o_if c9 hf
    refine j_aload_n C 1 rfl rfl d_TL_spendingFor_12 ?_
    refine g_TL_state C (List.mem_cons_of_mem _ wd_1_218) d_TL_spendingFor_13 ?_
    refine g_ST_lines C (List.mem_cons_of_mem _ wd_1_115) d_TL_spendingFor_16 ?_
    refine j_iload_n C 2 rfl rfl d_TL_spendingFor_19 ?_
    refine j_iload C 0 rfl d_TL_spendingFor_20 ?_
    refine j_iload_n C 3 rfl rfl d_TL_spendingFor_22 ?_
    obtain ⟨r23, h23, hf⟩ := o_b1 hf
    refine j_callS C [.int x2] [.int r1, .int x1, .ref (ad 2)] (m_TL_currencyOf _ _ _ _ _ x2 σ h23) (gdS wd_2_153 wd_2_82 wd_1_1 wc_TL_currencyOf) hy_TL_currencyOf rfl rfl (by decide) (by decide) (by decide) (by decide) (Nat.le_of_ble_eq_true rfl) d_TL_spendingFor_23 (j_kI (r := r23) (σ1 := σ) ?_)
    obtain ⟨r26, h26, hf⟩ := o_b1 hf
    refine j_callS C [.int x1, .int r1, .int r23] [.ref (ad 2)] (m_LN_side _ _ _ _ _ x1 r1 r23 σ h26) (gdS wd_2_101 wd_2_48 wd_1_3 wc_LN_side) hy_LN_side rfl rfl (by decide) (by decide) (by decide) (by decide) (Nat.le_of_ble_eq_true rfl) d_TL_spendingFor_26 (j_kI (r := r26) (σ1 := σ) ?_)
    refine j_iload_n C 4 rfl rfl d_TL_spendingFor_29 ?_
    obtain ⟨r30, h30, hf⟩ := o_b1 hf
    refine j_callV (ci := 2) (Cn := "TollLedger$Lines") (T := T_LN) (N := 3) C [.int r26, .int x3] [] (m_LN_hasRoom _ _ _ _ _ r26 x3 σ h30) (gdV wd_2_154 wd_2_155 wd_2_156 wd_1_3 wc_LN_hasRoom) hy_LN_hasRoom rfl ⟨2, rfl⟩ rfl rfl (by decide) (by decide) (by decide) (by decide) (Nat.le_of_ble_eq_true rfl) d_TL_spendingFor_30 (j_kI (r := r30) (σ1 := σ) ?_)
    refine j_if_ne C d_TL_spendingFor_33 rfl (fun c33 => ?_) (fun c33 => ?_)
    · have hf := o_if c33 hf
      refine j_sub [1, 2, 3, 4, 5] rfl ?_
      exact w_TL_spendingFor_c38 C Rt  x1 x2 x3 x4 σ hf
    · have hf := o_it c33 hf
      refine j_iconst C (v := -1) (by decide) d_TL_spendingFor_36 ?_
      have hf := Option.some.inj hf
      subst hf
      exact j_iret C Rt (Nat.zero_le _) (Nat.zero_le _) d_TL_spendingFor_37 ⟨rfl, rfl⟩
theorem d_TL_greatestDelivery_0 : decode b_TL_greatestDelivery 0 = .ok (.iconst 0, 1) := by decide +kernel
theorem d_TL_greatestDelivery_1 : decode b_TL_greatestDelivery 1 = .ok (.istore 5, 2) := by decide +kernel
theorem d_TL_greatestDelivery_3 : decode b_TL_greatestDelivery 3 = .ok (.sipush 256, 3) := by decide +kernel
theorem d_TL_greatestDelivery_6 : decode b_TL_greatestDelivery 6 = .ok (.istore 6, 2) := by decide +kernel
theorem d_TL_greatestDelivery_8 : decode b_TL_greatestDelivery 8 = .ok (.iload 6, 2) := by decide +kernel
theorem d_TL_greatestDelivery_10 : decode b_TL_greatestDelivery 10 = .ok (.ifCond .le 45, 3) := by decide +kernel
theorem d_TL_greatestDelivery_13 : decode b_TL_greatestDelivery 13 = .ok (.iload 5, 2) := by decide +kernel
theorem d_TL_greatestDelivery_15 : decode b_TL_greatestDelivery 15 = .ok (.iload 6, 2) := by decide +kernel
theorem d_TL_greatestDelivery_17 : decode b_TL_greatestDelivery 17 = .ok (.iadd, 1) := by decide +kernel
theorem d_TL_greatestDelivery_18 : decode b_TL_greatestDelivery 18 = .ok (.iload_n 3, 1) := by decide +kernel
theorem d_TL_greatestDelivery_19 : decode b_TL_greatestDelivery 19 = .ok (.if_icmp .gt 27, 3) := by decide +kernel
theorem d_TL_greatestDelivery_22 : decode b_TL_greatestDelivery 22 = .ok (.aload_n 0, 1) := by decide +kernel
theorem d_TL_greatestDelivery_23 : decode b_TL_greatestDelivery 23 = .ok (.iload_n 1, 1) := by decide +kernel
theorem d_TL_greatestDelivery_24 : decode b_TL_greatestDelivery 24 = .ok (.iload_n 2, 1) := by decide +kernel
theorem d_TL_greatestDelivery_25 : decode b_TL_greatestDelivery 25 = .ok (.iload 5, 2) := by decide +kernel
theorem d_TL_greatestDelivery_27 : decode b_TL_greatestDelivery 27 = .ok (.iload 6, 2) := by decide +kernel
theorem d_TL_greatestDelivery_29 : decode b_TL_greatestDelivery 29 = .ok (.iadd, 1) := by decide +kernel
theorem d_TL_greatestDelivery_30 : decode b_TL_greatestDelivery 30 = .ok (.iload 4, 2) := by decide +kernel
theorem d_TL_greatestDelivery_32 : decode b_TL_greatestDelivery 32 = .ok (.invokevirtual 129, 3) := by decide +kernel
theorem d_TL_greatestDelivery_35 : decode b_TL_greatestDelivery 35 = .ok (.iconst (-1), 1) := by decide +kernel
theorem d_TL_greatestDelivery_36 : decode b_TL_greatestDelivery 36 = .ok (.if_icmp .eq 10, 3) := by decide +kernel
theorem d_TL_greatestDelivery_39 : decode b_TL_greatestDelivery 39 = .ok (.iload 5, 2) := by decide +kernel
theorem d_TL_greatestDelivery_41 : decode b_TL_greatestDelivery 41 = .ok (.iload 6, 2) := by decide +kernel
theorem d_TL_greatestDelivery_43 : decode b_TL_greatestDelivery 43 = .ok (.iadd, 1) := by decide +kernel
theorem d_TL_greatestDelivery_44 : decode b_TL_greatestDelivery 44 = .ok (.istore 5, 2) := by decide +kernel
theorem d_TL_greatestDelivery_46 : decode b_TL_greatestDelivery 46 = .ok (.iload 6, 2) := by decide +kernel
theorem d_TL_greatestDelivery_48 : decode b_TL_greatestDelivery 48 = .ok (.iconst 2, 1) := by decide +kernel
theorem d_TL_greatestDelivery_49 : decode b_TL_greatestDelivery 49 = .ok (.idiv, 1) := by decide +kernel
theorem d_TL_greatestDelivery_50 : decode b_TL_greatestDelivery 50 = .ok (.istore 6, 2) := by decide +kernel
theorem d_TL_greatestDelivery_52 : decode b_TL_greatestDelivery 52 = .ok (.goto (-44), 3) := by decide +kernel
theorem d_TL_greatestDelivery_55 : decode b_TL_greatestDelivery 55 = .ok (.iload 5, 2) := by decide +kernel
theorem d_TL_greatestDelivery_57 : decode b_TL_greatestDelivery 57 = .ok (.ireturn, 1) := by decide +kernel
def TL_greatestDelivery_c46 (kb8 : Int32 → Int32 → Int32 → Int32 → Int32 → Int32 → ST → Option (Int32 × ST)) (x1 : Int32) (x2 : Int32) (x3 : Int32) (x4 : Int32) (x5 : Int32) (x6 : Int32) (σ : ST) : Option (Int32 × ST) :=
  nmI (x6 / (2 : Int32)) fun x6_50 =>
  kb8 x1 x2 x3 x4 x5 x6_50 σ
set_option maxRecDepth 100000 in
set_option maxHeartbeats 4000000 in
theorem w_TL_greatestDelivery_c46 {X : JX} (C : JC X l D (ttf cs) eE b_TL_greatestDelivery "TollLedger" 7 (Cond.code y_TL_greatestDelivery b_TL_greatestDelivery 7 r_TL_greatestDelivery :: BIG) 6 144 0 0) {res : Int32 × ST} (Rt : JR X (wfm ad cs) 0 0 (PI res.1 res.2) r_TL_greatestDelivery "greatestDelivery") {kb8 : Int32 → Int32 → Int32 → Int32 → Int32 → Int32 → ST → Option (Int32 × ST)} (hk8 : ∀ (x1 : Int32) (x2 : Int32) (x3 : Int32) (x4 : Int32) (x5 : Int32) (x6 : Int32) (σ : ST), kb8 x1 x2 x3 x4 x5 x6 σ = some res → J (wfm ad cs) X 7 0 0 σ 8 [(0, .ref (ad 0)), (1, .int x1), (2, .int x2), (3, .int x3), (4, .int x4), (5, .int x5), (6, .int x6)] []) (x1 : Int32) (x2 : Int32) (x3 : Int32) (x4 : Int32) (x5 : Int32) (x6 : Int32) (σ : ST) (hf : TL_greatestDelivery_c46 kb8 x1 x2 x3 x4 x5 x6 σ = some res) : J (wfm ad cs) X 7 0 0 σ 46 [(0, .ref (ad 0)), (1, .int x1), (2, .int x2), (3, .int x3), (4, .int x4), (5, .int x5), (6, .int x6)] [] := by
  unfold TL_greatestDelivery_c46 at hf
  refine j_iload C 6 rfl d_TL_greatestDelivery_46 ?_
  refine j_iconst C (v := 2) (by decide) d_TL_greatestDelivery_48 ?_
  refine j_idiv C (by decide) d_TL_greatestDelivery_49 ?_
  obtain ⟨x6_50, ex6_50, hf⟩ := o_nmI hf
  refine j_topI ex6_50 ?_
  refine j_istore C (by decide) (loc' := [(6, .int x6_50), (0, .ref (ad 0)), (1, .int x1), (2, .int x2), (3, .int x3), (4, .int x4), (5, .int x5)]) rfl d_TL_greatestDelivery_50 ?_
  refine j_goto C d_TL_greatestDelivery_52 rfl ?_
  refine j_sub [1, 2, 3, 4, 5, 6, 0] rfl ?_
  exact hk8 x1 x2 x3 x4 x5 x6_50 σ hf
def TL_greatestDelivery_b8 (kb8 : Int32 → Int32 → Int32 → Int32 → Int32 → Int32 → ST → Option (Int32 × ST)) (x1 : Int32) (x2 : Int32) (x3 : Int32) (x4 : Int32) (x5 : Int32) (x6 : Int32) (σ : ST) : Option (Int32 × ST) :=
  if x6 ≤ 0 then (some (x5, σ))
  else (if x3 < (x5 + x6) then (TL_greatestDelivery_c46 kb8 x1 x2 x3 x4 x5 x6 σ)
  else (bd2 (TL_spendingFor x1 x2 (x5 + x6) x4 σ) fun r32 σ32 =>
  if r32 = (-1 : Int32) then (TL_greatestDelivery_c46 kb8 x1 x2 x3 x4 x5 x6 σ32)
  else (nmI (x5 + x6) fun x5_44 =>
  TL_greatestDelivery_c46 kb8 x1 x2 x3 x4 x5_44 x6 σ32)))
set_option maxRecDepth 100000 in
set_option maxHeartbeats 4000000 in
theorem w_TL_greatestDelivery_b8 {X : JX} (C : JC X l D (ttf cs) eE b_TL_greatestDelivery "TollLedger" 7 (Cond.code y_TL_greatestDelivery b_TL_greatestDelivery 7 r_TL_greatestDelivery :: BIG) 6 144 0 0) {res : Int32 × ST} (Rt : JR X (wfm ad cs) 0 0 (PI res.1 res.2) r_TL_greatestDelivery "greatestDelivery") {kb8 : Int32 → Int32 → Int32 → Int32 → Int32 → Int32 → ST → Option (Int32 × ST)} (hk8 : ∀ (x1 : Int32) (x2 : Int32) (x3 : Int32) (x4 : Int32) (x5 : Int32) (x6 : Int32) (σ : ST), kb8 x1 x2 x3 x4 x5 x6 σ = some res → J (wfm ad cs) X 7 0 0 σ 8 [(0, .ref (ad 0)), (1, .int x1), (2, .int x2), (3, .int x3), (4, .int x4), (5, .int x5), (6, .int x6)] []) (x1 : Int32) (x2 : Int32) (x3 : Int32) (x4 : Int32) (x5 : Int32) (x6 : Int32) (σ : ST) (hf : TL_greatestDelivery_b8 kb8 x1 x2 x3 x4 x5 x6 σ = some res) : J (wfm ad cs) X 7 0 0 σ 8 [(0, .ref (ad 0)), (1, .int x1), (2, .int x2), (3, .int x3), (4, .int x4), (5, .int x5), (6, .int x6)] [] := by
  unfold TL_greatestDelivery_b8 at hf
  refine j_iload C 6 rfl d_TL_greatestDelivery_8 ?_
  refine j_if_le C d_TL_greatestDelivery_10 rfl (fun c10 => ?_) (fun c10 => ?_)
  · have hf := o_it c10 hf
    refine j_iload C 5 rfl d_TL_greatestDelivery_55 ?_
    have hf := Option.some.inj hf
    subst hf
    exact j_iret C Rt (Nat.zero_le _) (Nat.zero_le _) d_TL_greatestDelivery_57 ⟨rfl, rfl⟩
  · have hf := o_if c10 hf
    refine j_iload C 5 rfl d_TL_greatestDelivery_13 ?_
    refine j_iload C 6 rfl d_TL_greatestDelivery_15 ?_
    refine j_iadd C d_TL_greatestDelivery_17 ?_
    refine j_iload_n C 3 rfl rfl d_TL_greatestDelivery_18 ?_
    refine j_icmp_gt C d_TL_greatestDelivery_19 rfl (fun c19 => ?_) (fun c19 => ?_)
    · have hf := o_it c19 hf
      exact w_TL_greatestDelivery_c46 C Rt hk8 x1 x2 x3 x4 x5 x6 σ hf
    · have hf := o_if c19 hf
      refine j_aload_n C 0 rfl rfl d_TL_greatestDelivery_22 ?_
      refine j_iload_n C 1 rfl rfl d_TL_greatestDelivery_23 ?_
      refine j_iload_n C 2 rfl rfl d_TL_greatestDelivery_24 ?_
      refine j_iload C 5 rfl d_TL_greatestDelivery_25 ?_
      refine j_iload C 6 rfl d_TL_greatestDelivery_27 ?_
      refine j_iadd C d_TL_greatestDelivery_29 ?_
      refine j_iload C 4 rfl d_TL_greatestDelivery_30 ?_
      obtain ⟨r32, σ32, h32, hf⟩ := o_b2 hf
      refine j_callV (ci := 0) (Cn := "TollLedger") (T := T_TL) (N := 10) C [.int x1, .int x2, .int (x5 + x6), .int x4] [] (m_TL_spendingFor _ _ _ _ _ x1 x2 (x5 + x6) x4 σ h32) (gdV wd_2_148 wd_2_150 wp_5 wd_1_1 wc_TL_spendingFor) hy_TL_spendingFor rfl ⟨0, rfl⟩ rfl rfl (by decide) (by decide) (by decide) (by decide) (Nat.le_of_ble_eq_true rfl) d_TL_greatestDelivery_32 (j_kI (r := r32) (σ1 := σ32) ?_)
      refine j_iconst C (v := -1) (by decide) d_TL_greatestDelivery_35 ?_
      refine j_icmp_eq C d_TL_greatestDelivery_36 rfl (fun c36 => ?_) (fun c36 => ?_)
      · have hf := o_it c36 hf
        exact w_TL_greatestDelivery_c46 C Rt hk8 x1 x2 x3 x4 x5 x6 σ32 hf
      · have hf := o_if c36 hf
        refine j_iload C 5 rfl d_TL_greatestDelivery_39 ?_
        refine j_iload C 6 rfl d_TL_greatestDelivery_41 ?_
        refine j_iadd C d_TL_greatestDelivery_43 ?_
        obtain ⟨x5_44, ex5_44, hf⟩ := o_nmI hf
        refine j_topI ex5_44 ?_
        refine j_istore C (by decide) (loc' := [(5, .int x5_44), (0, .ref (ad 0)), (1, .int x1), (2, .int x2), (3, .int x3), (4, .int x4), (6, .int x6)]) rfl d_TL_greatestDelivery_44 ?_
        refine j_sub [1, 2, 3, 4, 5, 0, 6] rfl ?_
        exact w_TL_greatestDelivery_c46 C Rt hk8 x1 x2 x3 x4 x5_44 x6 σ32 hf
def TL_greatestDelivery_L8 : Nat → Int32 → Int32 → Int32 → Int32 → Int32 → Int32 → ST → Option (Int32 × ST)
  | 0, _, _, _, _, _, _, _ => none
  | N + 1, x1, x2, x3, x4, x5, x6, σ => TL_greatestDelivery_b8 (fun x1 x2 x3 x4 x5 x6 σ => TL_greatestDelivery_L8 N x1 x2 x3 x4 x5 x6 σ) x1 x2 x3 x4 x5 x6 σ
theorem w_TL_greatestDelivery_L8 {X : JX} (C : JC X l D (ttf cs) eE b_TL_greatestDelivery "TollLedger" 7 (Cond.code y_TL_greatestDelivery b_TL_greatestDelivery 7 r_TL_greatestDelivery :: BIG) 6 144 0 0) {res : Int32 × ST} (Rt : JR X (wfm ad cs) 0 0 (PI res.1 res.2) r_TL_greatestDelivery "greatestDelivery")  (N : Nat) (x1 : Int32) (x2 : Int32) (x3 : Int32) (x4 : Int32) (x5 : Int32) (x6 : Int32) (σ : ST) (hf : TL_greatestDelivery_L8 N x1 x2 x3 x4 x5 x6 σ = some res) : J (wfm ad cs) X 7 0 0 σ 8 [(0, .ref (ad 0)), (1, .int x1), (2, .int x2), (3, .int x3), (4, .int x4), (5, .int x5), (6, .int x6)] [] := by
  induction N generalizing x1 x2 x3 x4 x5 x6 σ with
  | zero => exact nomatch hf
  | succ N ih => exact w_TL_greatestDelivery_b8 C Rt  (fun x1 x2 x3 x4 x5 x6 σ h => ih x1 x2 x3 x4 x5 x6 σ h) x1 x2 x3 x4 x5 x6 σ hf
def TL_greatestDelivery (x1 : Int32) (x2 : Int32) (x3 : Int32) (x4 : Int32) (σ : ST) : Option (Int32 × ST) :=
  TL_greatestDelivery_L8 FU x1 x2 x3 x4 (0 : Int32) (256 : Int32) σ
set_option maxRecDepth 100000 in
set_option maxHeartbeats 4000000 in
theorem m_TL_greatestDelivery (l : Launch) (D : va_G) (ad : Nat → Nat) (cs : Nat → ClassId) (eE : Nat × Nat) (x1 : Int32) (x2 : Int32) (x3 : Int32) (x4 : Int32) (σ : ST) {res : Int32 × ST} (hf : TL_greatestDelivery x1 x2 x3 x4 σ = some res) : MS l y_TL_greatestDelivery (Cond.code y_TL_greatestDelivery b_TL_greatestDelivery 7 r_TL_greatestDelivery :: BIG) 6 144 0 0 (wfm ad cs) D (ttf cs) eE [.ref (ad 0), .int x1, .int x2, .int x3, .int x4] σ (PI res.1 res.2) := by
  refine MS.of (cc := b_TL_greatestDelivery) (maxL := 7) (ret := r_TL_greatestDelivery) (by decide) rfl (Nat.le_of_ble_eq_true rfl) (loc := [(0, .ref (ad 0)), (1, .int x1), (2, .int x2), (3, .int x3), (4, .int x4)]) rfl (fun X C Rt => ?_)
  unfold TL_greatestDelivery at hf
  refine j_iconst C (v := 0) (by decide) d_TL_greatestDelivery_0 ?_
  refine j_istore C (by decide) (loc' := [(5, .int (0 : Int32)), (0, .ref (ad 0)), (1, .int x1), (2, .int x2), (3, .int x3), (4, .int x4)]) rfl d_TL_greatestDelivery_1 ?_
  refine j_sipush C (v := 256) (by decide) d_TL_greatestDelivery_3 ?_
  refine j_istore C (by decide) (loc' := [(6, .int (256 : Int32)), (5, .int (0 : Int32)), (0, .ref (ad 0)), (1, .int x1), (2, .int x2), (3, .int x3), (4, .int x4)]) rfl d_TL_greatestDelivery_6 ?_
  refine j_sub [2, 3, 4, 5, 6, 1, 0] rfl ?_
  exact w_TL_greatestDelivery_L8 C Rt  FU x1 x2 x3 x4 (0 : Int32) (256 : Int32) σ hf
theorem d_TL_isOther_0 : decode b_TL_isOther 0 = .ok (.iload_n 1, 1) := by decide +kernel
theorem d_TL_isOther_1 : decode b_TL_isOther 1 = .ok (.invokestatic 43, 3) := by decide +kernel
theorem d_TL_isOther_4 : decode b_TL_isOther 4 = .ok (.ifCond .eq 15, 3) := by decide +kernel
theorem d_TL_isOther_7 : decode b_TL_isOther 7 = .ok (.iload_n 1, 1) := by decide +kernel
theorem d_TL_isOther_8 : decode b_TL_isOther 8 = .ok (.aload_n 0, 1) := by decide +kernel
theorem d_TL_isOther_9 : decode b_TL_isOther 9 = .ok (.getfield 32, 3) := by decide +kernel
theorem d_TL_isOther_12 : decode b_TL_isOther 12 = .ok (.if_icmp .eq 7, 3) := by decide +kernel
theorem d_TL_isOther_15 : decode b_TL_isOther 15 = .ok (.iconst 1, 1) := by decide +kernel
theorem d_TL_isOther_16 : decode b_TL_isOther 16 = .ok (.goto 4, 3) := by decide +kernel
theorem d_TL_isOther_19 : decode b_TL_isOther 19 = .ok (.iconst 0, 1) := by decide +kernel
theorem d_TL_isOther_20 : decode b_TL_isOther 20 = .ok (.ireturn, 1) := by decide +kernel
def TL_isOther (x1 : Int32) (σ : ST) : Option (Int32) :=
  bd1 (TL_isAccount x1) fun r1 =>
  if r1 = 0 then (some (0 : Int32))
  else (if x1 = (gI σ 0) then (some (0 : Int32))
  else (some (1 : Int32)))
set_option maxRecDepth 100000 in
set_option maxHeartbeats 4000000 in
theorem m_TL_isOther (l : Launch) (D : va_G) (ad : Nat → Nat) (cs : Nat → ClassId) (eE : Nat × Nat) (x1 : Int32) (σ : ST) {res : Int32} (hf : TL_isOther x1 σ = some res) : MS l y_TL_isOther (Cond.code y_TL_isOther b_TL_isOther 2 r_TL_isOther :: BIG) 2 42 0 0 (wfm ad cs) D (ttf cs) eE [.ref (ad 0), .int x1] σ (PI res σ) := by
  refine MS.of (cc := b_TL_isOther) (maxL := 2) (ret := r_TL_isOther) (by decide) rfl (Nat.le_of_ble_eq_true rfl) (loc := [(0, .ref (ad 0)), (1, .int x1)]) rfl (fun X C Rt => ?_)
  unfold TL_isOther at hf
  refine j_iload_n C 1 rfl rfl d_TL_isOther_0 ?_
  obtain ⟨r1, h1, hf⟩ := o_b1 hf
  refine j_callS C [.int x1] [] (m_TL_isAccount _ _ _ _ _ x1 σ h1) (gdS wd_2_13 wd_2_14 wd_1_1 wc_TL_isAccount) hy_TL_isAccount rfl rfl (by decide) (by decide) (by decide) (by decide) (Nat.le_of_ble_eq_true rfl) d_TL_isOther_1 (j_kI (r := r1) (σ1 := σ) ?_)
  refine j_if_eq C d_TL_isOther_4 rfl (fun c4 => ?_) (fun c4 => ?_)
  · have hf := o_it c4 hf
    refine j_iconst C (v := 0) (by decide) d_TL_isOther_19 ?_
    have hf := Option.some.inj hf
    subst hf
    exact j_zret C Rt (by decide) (Nat.zero_le _) (Nat.zero_le _) d_TL_isOther_20 ⟨rfl, rfl⟩
  · have hf := o_if c4 hf
    refine j_iload_n C 1 rfl rfl d_TL_isOther_7 ?_
    refine j_aload_n C 0 rfl rfl d_TL_isOther_8 ?_
    refine g_TL_signer C (List.mem_cons_of_mem _ wd_1_221) d_TL_isOther_9 ?_
    refine j_icmp_eq C d_TL_isOther_12 rfl (fun c12 => ?_) (fun c12 => ?_)
    · have hf := o_it c12 hf
      refine j_iconst C (v := 0) (by decide) d_TL_isOther_19 ?_
      have hf := Option.some.inj hf
      subst hf
      exact j_zret C Rt (by decide) (Nat.zero_le _) (Nat.zero_le _) d_TL_isOther_20 ⟨rfl, rfl⟩
    · have hf := o_if c12 hf
      refine j_iconst C (v := 1) (by decide) d_TL_isOther_15 ?_
      refine j_goto C d_TL_isOther_16 rfl ?_
      have hf := Option.some.inj hf
      subst hf
      exact j_zret C Rt (by decide) (Nat.zero_le _) (Nat.zero_le _) d_TL_isOther_20 ⟨rfl, rfl⟩
theorem d_TL_limit_0 : decode b_TL_limit 0 = .ok (.iload_n 1, 1) := by decide +kernel
theorem d_TL_limit_1 : decode b_TL_limit 1 = .ok (.iload_n 2, 1) := by decide +kernel
theorem d_TL_limit_2 : decode b_TL_limit 2 = .ok (.iload_n 3, 1) := by decide +kernel
theorem d_TL_limit_3 : decode b_TL_limit 3 = .ok (.invokestatic 219, 3) := by decide +kernel
theorem d_TL_limit_6 : decode b_TL_limit 6 = .ok (.ifCond .ne 5, 3) := by decide +kernel
theorem d_TL_limit_9 : decode b_TL_limit 9 = .ok (.iconst 0, 1) := by decide +kernel
theorem d_TL_limit_10 : decode b_TL_limit 10 = .ok (.ireturn, 1) := by decide +kernel
theorem d_TL_limit_11 : decode b_TL_limit 11 = .ok (.iload_n 1, 1) := by decide +kernel
theorem d_TL_limit_12 : decode b_TL_limit 12 = .ok (.iload_n 2, 1) := by decide +kernel
theorem d_TL_limit_13 : decode b_TL_limit 13 = .ok (.iload_n 3, 1) := by decide +kernel
theorem d_TL_limit_14 : decode b_TL_limit 14 = .ok (.invokestatic 83, 3) := by decide +kernel
theorem d_TL_limit_17 : decode b_TL_limit 17 = .ok (.istore 4, 2) := by decide +kernel
theorem d_TL_limit_19 : decode b_TL_limit 19 = .ok (.aload_n 0, 1) := by decide +kernel
theorem d_TL_limit_20 : decode b_TL_limit 20 = .ok (.getfield 10, 3) := by decide +kernel
theorem d_TL_limit_23 : decode b_TL_limit 23 = .ok (.getfield 89, 3) := by decide +kernel
theorem d_TL_limit_26 : decode b_TL_limit 26 = .ok (.getfield 100, 3) := by decide +kernel
theorem d_TL_limit_29 : decode b_TL_limit 29 = .ok (.iload 4, 2) := by decide +kernel
theorem d_TL_limit_31 : decode b_TL_limit 31 = .ok (.iaload, 1) := by decide +kernel
theorem d_TL_limit_32 : decode b_TL_limit 32 = .ok (.aload_n 0, 1) := by decide +kernel
theorem d_TL_limit_33 : decode b_TL_limit 33 = .ok (.getfield 10, 3) := by decide +kernel
theorem d_TL_limit_36 : decode b_TL_limit 36 = .ok (.getfield 89, 3) := by decide +kernel
theorem d_TL_limit_39 : decode b_TL_limit 39 = .ok (.getfield 104, 3) := by decide +kernel
theorem d_TL_limit_42 : decode b_TL_limit 42 = .ok (.iload 4, 2) := by decide +kernel
theorem d_TL_limit_44 : decode b_TL_limit 44 = .ok (.baload, 1) := by decide +kernel
theorem d_TL_limit_45 : decode b_TL_limit 45 = .ok (.ifCond .eq 8, 3) := by decide +kernel
theorem d_TL_limit_48 : decode b_TL_limit 48 = .ok (.ldc 39, 2) := by decide +kernel
theorem d_TL_limit_50 : decode b_TL_limit 50 = .ok (.goto 4, 3) := by decide +kernel
theorem d_TL_limit_53 : decode b_TL_limit 53 = .ok (.iconst 0, 1) := by decide +kernel
theorem d_TL_limit_54 : decode b_TL_limit 54 = .ok (.iadd, 1) := by decide +kernel
theorem d_TL_limit_55 : decode b_TL_limit 55 = .ok (.ireturn, 1) := by decide +kernel
def TL_limit (x1 : Int32) (x2 : Int32) (x3 : Int32) (σ : ST) : Option (Int32) :=
  bd1 (TL_isLine x1 x2 x3) fun r3 =>
  if r3 = 0 then (some (0 : Int32))
  else (bd1 (LN_side x1 x2 x3) fun r14 =>
  if r14 < 0 ∨ 72 ≤ r14.toNatClampNeg then none else
  if (gA σ 2 r14.toNatClampNeg) = 0 then (some ((gA σ 1 r14.toNatClampNeg) + (0 : Int32)))
  else (some ((gA σ 1 r14.toNatClampNeg) + (1000000 : Int32))))
set_option maxRecDepth 100000 in
set_option maxHeartbeats 4000000 in
theorem m_TL_limit (l : Launch) (D : va_G) (ad : Nat → Nat) (cs : Nat → ClassId) (eE : Nat × Nat) (x1 : Int32) (x2 : Int32) (x3 : Int32) (σ : ST) {res : Int32} (hf : TL_limit x1 x2 x3 σ = some res) : MS l y_TL_limit (Cond.code y_TL_limit b_TL_limit 5 r_TL_limit :: BIG) 3 64 0 0 (wfm ad cs) D (ttf cs) eE [.ref (ad 0), .int x1, .int x2, .int x3] σ (PI res σ) := by
  refine MS.of (cc := b_TL_limit) (maxL := 5) (ret := r_TL_limit) (by decide) rfl (Nat.le_of_ble_eq_true rfl) (loc := [(0, .ref (ad 0)), (1, .int x1), (2, .int x2), (3, .int x3)]) rfl (fun X C Rt => ?_)
  unfold TL_limit at hf
  refine j_iload_n C 1 rfl rfl d_TL_limit_0 ?_
  refine j_iload_n C 2 rfl rfl d_TL_limit_1 ?_
  refine j_iload_n C 3 rfl rfl d_TL_limit_2 ?_
  obtain ⟨r3, h3, hf⟩ := o_b1 hf
  refine j_callS C [.int x1, .int x2, .int x3] [] (m_TL_isLine _ _ _ _ _ x1 x2 x3 σ h3) (gdS wd_3_174 wd_3_175 wd_1_1 wc_TL_isLine) hy_TL_isLine rfl rfl (by decide) (by decide) (by decide) (by decide) (Nat.le_of_ble_eq_true rfl) d_TL_limit_3 (j_kI (r := r3) (σ1 := σ) ?_)
  refine j_if_ne C d_TL_limit_6 rfl (fun c6 => ?_) (fun c6 => ?_)
  · have hf := o_if c6 hf
    refine j_iload_n C 1 rfl rfl d_TL_limit_11 ?_
    refine j_iload_n C 2 rfl rfl d_TL_limit_12 ?_
    refine j_iload_n C 3 rfl rfl d_TL_limit_13 ?_
    obtain ⟨r14, h14, hf⟩ := o_b1 hf
    refine j_callS C [.int x1, .int x2, .int x3] [] (m_LN_side _ _ _ _ _ x1 x2 x3 σ h14) (gdS wd_2_101 wd_2_48 wd_1_3 wc_LN_side) hy_LN_side rfl rfl (by decide) (by decide) (by decide) (by decide) (Nat.le_of_ble_eq_true rfl) d_TL_limit_14 (j_kI (r := r14) (σ1 := σ) ?_)
    refine j_istore C (by decide) (loc' := [(4, .int r14), (0, .ref (ad 0)), (1, .int x1), (2, .int x2), (3, .int x3)]) rfl d_TL_limit_17 ?_
    refine j_aload_n C 1 rfl rfl d_TL_limit_19 ?_
    refine g_TL_state C (List.mem_cons_of_mem _ wd_1_218) d_TL_limit_20 ?_
    refine g_ST_lines C (List.mem_cons_of_mem _ wd_1_115) d_TL_limit_23 ?_
    refine g_LN_limits C (List.mem_cons_of_mem _ wd_1_46) d_TL_limit_26 ?_
    refine j_iload C 0 rfl d_TL_limit_29 ?_
    obtain ⟨g31, hf⟩ := o_gn hf
    refine la_lim C g31 d_TL_limit_31 ?_
    refine j_aload_n C 1 rfl rfl d_TL_limit_32 ?_
    refine g_TL_state C (List.mem_cons_of_mem _ wd_1_218) d_TL_limit_33 ?_
    refine g_ST_lines C (List.mem_cons_of_mem _ wd_1_115) d_TL_limit_36 ?_
    refine g_LN_quiets C (List.mem_cons_of_mem _ wd_1_48) d_TL_limit_39 ?_
    refine j_iload C 0 rfl d_TL_limit_42 ?_
    refine la_qui C g31 d_TL_limit_44 ?_
    refine j_if_eq C d_TL_limit_45 rfl (fun c45 => ?_) (fun c45 => ?_)
    · have hf := o_it c45 hf
      refine j_iconst C (v := 0) (by decide) d_TL_limit_53 ?_
      refine j_iadd C d_TL_limit_54 ?_
      have hf := Option.some.inj hf
      subst hf
      exact j_iret C Rt (Nat.zero_le _) (Nat.zero_le _) d_TL_limit_55 ⟨rfl, rfl⟩
    · have hf := o_if c45 hf
      refine j_ldc C (v := 1000000) (List.mem_cons_of_mem _ wd_1_217) d_TL_limit_48 ?_
      refine j_goto C d_TL_limit_50 rfl ?_
      refine j_iadd C d_TL_limit_54 ?_
      have hf := Option.some.inj hf
      subst hf
      exact j_iret C Rt (Nat.zero_le _) (Nat.zero_le _) d_TL_limit_55 ⟨rfl, rfl⟩
  · have hf := o_it c6 hf
    refine j_iconst C (v := 0) (by decide) d_TL_limit_9 ?_
    have hf := Option.some.inj hf
    subst hf
    exact j_iret C Rt (Nat.zero_le _) (Nat.zero_le _) d_TL_limit_10 ⟨rfl, rfl⟩
theorem d_TL_offerOf_0 : decode b_TL_offerOf 0 = .ok (.aload_n 0, 1) := by decide +kernel
theorem d_TL_offerOf_1 : decode b_TL_offerOf 1 = .ok (.getfield 10, 3) := by decide +kernel
theorem d_TL_offerOf_4 : decode b_TL_offerOf 4 = .ok (.iload_n 1, 1) := by decide +kernel
theorem d_TL_offerOf_5 : decode b_TL_offerOf 5 = .ok (.invokevirtual 158, 3) := by decide +kernel
theorem d_TL_offerOf_8 : decode b_TL_offerOf 8 = .ok (.istore_n 3, 1) := by decide +kernel
theorem d_TL_offerOf_9 : decode b_TL_offerOf 9 = .ok (.iload_n 3, 1) := by decide +kernel
theorem d_TL_offerOf_10 : decode b_TL_offerOf 10 = .ok (.iconst (-1), 1) := by decide +kernel
theorem d_TL_offerOf_11 : decode b_TL_offerOf 11 = .ok (.if_icmp .ne 5, 3) := by decide +kernel
theorem d_TL_offerOf_14 : decode b_TL_offerOf 14 = .ok (.iconst (-1), 1) := by decide +kernel
theorem d_TL_offerOf_15 : decode b_TL_offerOf 15 = .ok (.ireturn, 1) := by decide +kernel
theorem d_TL_offerOf_16 : decode b_TL_offerOf 16 = .ok (.aload_n 0, 1) := by decide +kernel
theorem d_TL_offerOf_17 : decode b_TL_offerOf 17 = .ok (.getfield 10, 3) := by decide +kernel
theorem d_TL_offerOf_20 : decode b_TL_offerOf 20 = .ok (.getfield 162, 3) := by decide +kernel
theorem d_TL_offerOf_23 : decode b_TL_offerOf 23 = .ok (.iload_n 3, 1) := by decide +kernel
theorem d_TL_offerOf_24 : decode b_TL_offerOf 24 = .ok (.invokevirtual 166, 3) := by decide +kernel
theorem d_TL_offerOf_27 : decode b_TL_offerOf 27 = .ok (.checkcast 172, 3) := by decide +kernel
theorem d_TL_offerOf_30 : decode b_TL_offerOf 30 = .ok (.astore 4, 2) := by decide +kernel
theorem d_TL_offerOf_32 : decode b_TL_offerOf 32 = .ok (.iload_n 2, 1) := by decide +kernel
theorem d_TL_offerOf_33 : decode b_TL_offerOf 33 = .ok (.tableswitch 45 0 2 #[27, 33, 39], 27) := by decide +kernel
theorem d_TL_offerOf_60 : decode b_TL_offerOf 60 = .ok (.aload 4, 2) := by decide +kernel
theorem d_TL_offerOf_62 : decode b_TL_offerOf 62 = .ok (.getfield 244, 3) := by decide +kernel
theorem d_TL_offerOf_65 : decode b_TL_offerOf 65 = .ok (.ireturn, 1) := by decide +kernel
theorem d_TL_offerOf_66 : decode b_TL_offerOf 66 = .ok (.aload 4, 2) := by decide +kernel
theorem d_TL_offerOf_68 : decode b_TL_offerOf 68 = .ok (.getfield 247, 3) := by decide +kernel
theorem d_TL_offerOf_71 : decode b_TL_offerOf 71 = .ok (.ireturn, 1) := by decide +kernel
theorem d_TL_offerOf_72 : decode b_TL_offerOf 72 = .ok (.aload 4, 2) := by decide +kernel
theorem d_TL_offerOf_74 : decode b_TL_offerOf 74 = .ok (.getfield 174, 3) := by decide +kernel
theorem d_TL_offerOf_77 : decode b_TL_offerOf 77 = .ok (.ireturn, 1) := by decide +kernel
theorem d_TL_offerOf_78 : decode b_TL_offerOf 78 = .ok (.iconst (-1), 1) := by decide +kernel
theorem d_TL_offerOf_79 : decode b_TL_offerOf 79 = .ok (.ireturn, 1) := by decide +kernel
def TL_offerOf (x1 : Int32) (x2 : Int32) (σ : ST) : Option (Int32) :=
  bd1 (ST_placeOfOffer x1 σ) fun r5 =>
  if r5 = (-1 : Int32) then (some (-1 : Int32))
  else (bd1 (AL_get_OL r5 σ) fun r24 =>
  if ¬ (r24 ∈ pL σ ∧ pK σ r24 = 2) then none else
  if x2.toInt < 0 ∨ 2 < x2.toInt then (some (-1 : Int32))
  else (if x2 = 0 then (some (pP σ r24 3))
  else (if x2 = 1 then (some (pP σ r24 5))
  else (if x2 = 2 then (some (pP σ r24 1))
  else (none)))))
set_option maxRecDepth 100000 in
set_option maxHeartbeats 4000000 in
theorem m_TL_offerOf (l : Launch) (D : va_G) (ad : Nat → Nat) (cs : Nat → ClassId) (eE : Nat × Nat) (x1 : Int32) (x2 : Int32) (σ : ST) {res : Int32} (hf : TL_offerOf x1 x2 σ = some res) : MS l y_TL_offerOf (Cond.code y_TL_offerOf b_TL_offerOf 5 r_TL_offerOf :: BIG) 4 86 0 0 (wfm ad cs) D (ttf cs) eE [.ref (ad 0), .int x1, .int x2] σ (PI res σ) := by
  refine MS.of (cc := b_TL_offerOf) (maxL := 5) (ret := r_TL_offerOf) (by decide) rfl (Nat.le_of_ble_eq_true rfl) (loc := [(0, .ref (ad 0)), (1, .int x1), (2, .int x2)]) rfl (fun X C Rt => ?_)
  unfold TL_offerOf at hf
  refine j_aload_n C 0 rfl rfl d_TL_offerOf_0 ?_
  refine g_TL_state C (List.mem_cons_of_mem _ wd_1_218) d_TL_offerOf_1 ?_
  refine j_iload_n C 1 rfl rfl d_TL_offerOf_4 ?_
  obtain ⟨r5, h5, hf⟩ := o_b1 hf
  refine j_callV (ci := 1) (Cn := "TollLedger$State") (T := T_ST) (N := 6) C [.int x1] [] (m_ST_placeOfOffer _ _ _ _ _ x1 σ h5) (gdV wd_3_102 wd_3_103 wd_3_104 wd_1_2 wc_ST_placeOfOffer) hy_ST_placeOfOffer rfl ⟨1, rfl⟩ rfl rfl (by decide) (by decide) (by decide) (by decide) (Nat.le_of_ble_eq_true rfl) d_TL_offerOf_5 (j_kI (r := r5) (σ1 := σ) ?_)
  refine j_istore_n C rfl (by decide) (loc' := [(3, .int r5), (0, .ref (ad 0)), (1, .int x1), (2, .int x2)]) rfl d_TL_offerOf_8 ?_
  refine j_iload_n C 0 rfl rfl d_TL_offerOf_9 ?_
  refine j_iconst C (v := -1) (by decide) d_TL_offerOf_10 ?_
  refine j_icmp_ne C d_TL_offerOf_11 rfl (fun c11 => ?_) (fun c11 => ?_)
  · have hf := o_if c11 hf
    refine j_aload_n C 1 rfl rfl d_TL_offerOf_16 ?_
    refine g_TL_state C (List.mem_cons_of_mem _ wd_1_218) d_TL_offerOf_17 ?_
    refine g_ST_offers C (List.mem_cons_of_mem _ wd_1_119) d_TL_offerOf_20 ?_
    refine j_iload_n C 0 rfl rfl d_TL_offerOf_23 ?_
    obtain ⟨r24, h24, hf⟩ := o_b1 hf
    refine j_callV (ci := 9) (Cn := "java/util/ArrayList") (T := T_AL) (N := 3) C [.int r5] [] (m_AL_get_OL _ _ _ _ _ r5 σ h24) (gdV wd_3_106 wd_2_59 wd_2_60 wd_1_6 wc_AL_get) hy_AL_get rfl ⟨6, rfl⟩ rfl rfl (by decide) (by decide) (by decide) (by decide) (Nat.le_of_ble_eq_true rfl) d_TL_offerOf_24 (j_kA (r := r24) (σ1 := σ) ?_)
    obtain ⟨g27, hf⟩ := o_gn hf
    refine cc_Offer C (Decidable.not_not.mp g27) (List.mem_cons_of_mem _ wd_3_107) d_TL_offerOf_27 ?_
    refine j_astore C (by decide) (loc' := [(4, .ref r24), (3, .int r5), (0, .ref (ad 0)), (1, .int x1), (2, .int x2)]) rfl d_TL_offerOf_30 ?_
    refine j_iload_n C 4 rfl rfl d_TL_offerOf_32 ?_
    by_cases c33 : x2.toInt < 0 ∨ 2 < x2.toInt
    · have hf := o_it c33 hf
      refine j_tableOut C d_TL_offerOf_33 c33 rfl ?_
      refine j_iconst C (v := -1) (by decide) d_TL_offerOf_78 ?_
      have hf := Option.some.inj hf
      subst hf
      exact j_iret C Rt (Nat.zero_le _) (Nat.zero_le _) d_TL_offerOf_79 ⟨rfl, rfl⟩
    have hf := o_if c33 hf
    by_cases c33_0 : x2 = 0
    · have hf := o_it c33_0 hf
      refine j_tableIn C d_TL_offerOf_33 (by rw [c33_0]; decide) (by rw [c33_0]; decide) (by rw [c33_0]; rfl) rfl ?_
      refine j_aload C 0 rfl d_TL_offerOf_60 ?_
      refine gp_Offer_w C (Decidable.not_not.mp g27) (List.mem_cons_of_mem _ wd_3_25) d_TL_offerOf_62 ?_
      have hf := Option.some.inj hf
      subst hf
      exact j_iret C Rt (Nat.zero_le _) (Nat.zero_le _) d_TL_offerOf_65 ⟨rfl, rfl⟩
    have hf := o_if c33_0 hf
    by_cases c33_1 : x2 = 1
    · have hf := o_it c33_1 hf
      refine j_tableIn C d_TL_offerOf_33 (by rw [c33_1]; decide) (by rw [c33_1]; decide) (by rw [c33_1]; rfl) rfl ?_
      refine j_aload C 0 rfl d_TL_offerOf_66 ?_
      refine gp_Offer_g C (Decidable.not_not.mp g27) (List.mem_cons_of_mem _ wd_3_32) d_TL_offerOf_68 ?_
      have hf := Option.some.inj hf
      subst hf
      exact j_iret C Rt (Nat.zero_le _) (Nat.zero_le _) d_TL_offerOf_71 ⟨rfl, rfl⟩
    have hf := o_if c33_1 hf
    by_cases c33_2 : x2 = 2
    · have hf := o_it c33_2 hf
      refine j_tableIn C d_TL_offerOf_33 (by rw [c33_2]; decide) (by rw [c33_2]; decide) (by rw [c33_2]; rfl) rfl ?_
      refine j_aload C 0 rfl d_TL_offerOf_72 ?_
      refine gp_Offer_owner C (Decidable.not_not.mp g27) (List.mem_cons_of_mem _ wd_3_18) d_TL_offerOf_74 ?_
      have hf := Option.some.inj hf
      subst hf
      exact j_iret C Rt (Nat.zero_le _) (Nat.zero_le _) d_TL_offerOf_77 ⟨rfl, rfl⟩
    have hf := o_if c33_2 hf
    cases hf
  · have hf := o_it c11 hf
    refine j_iconst C (v := -1) (by decide) d_TL_offerOf_14 ?_
    have hf := Option.some.inj hf
    subst hf
    exact j_iret C Rt (Nat.zero_le _) (Nat.zero_le _) d_TL_offerOf_15 ⟨rfl, rfl⟩
end
