section
variable {l : Launch} {D : va_G} {ad : Nat → Nat} {cs : Nat → ClassId} {eE : Nat × Nat}
theorem d_MD_deposit_0 : decode b_MD_deposit 0 = .ok (.aload_n 0, 1) := by decide +kernel
theorem d_MD_deposit_1 : decode b_MD_deposit 1 = .ok (.iload_n 1, 1) := by decide +kernel
theorem d_MD_deposit_2 : decode b_MD_deposit 2 = .ok (.invokestatic 137, 3) := by decide +kernel
theorem d_MD_deposit_5 : decode b_MD_deposit 5 = .ok (.ifCond .eq 43, 3) := by decide +kernel
theorem d_MD_deposit_8 : decode b_MD_deposit 8 = .ok (.iload_n 1, 1) := by decide +kernel
theorem d_MD_deposit_9 : decode b_MD_deposit 9 = .ok (.aload_n 0, 1) := by decide +kernel
theorem d_MD_deposit_10 : decode b_MD_deposit 10 = .ok (.getfield 68, 3) := by decide +kernel
theorem d_MD_deposit_13 : decode b_MD_deposit 13 = .ok (.if_icmp .eq 35, 3) := by decide +kernel
theorem d_MD_deposit_16 : decode b_MD_deposit 16 = .ok (.iload_n 2, 1) := by decide +kernel
theorem d_MD_deposit_17 : decode b_MD_deposit 17 = .ok (.iconst 1, 1) := by decide +kernel
theorem d_MD_deposit_18 : decode b_MD_deposit 18 = .ok (.if_icmp .lt 30, 3) := by decide +kernel
theorem d_MD_deposit_21 : decode b_MD_deposit 21 = .ok (.iload_n 2, 1) := by decide +kernel
theorem d_MD_deposit_22 : decode b_MD_deposit 22 = .ok (.ldc 72, 2) := by decide +kernel
theorem d_MD_deposit_24 : decode b_MD_deposit 24 = .ok (.if_icmp .gt 24, 3) := by decide +kernel
theorem d_MD_deposit_27 : decode b_MD_deposit 27 = .ok (.iload_n 3, 1) := by decide +kernel
theorem d_MD_deposit_28 : decode b_MD_deposit 28 = .ok (.ifCond .lt 20, 3) := by decide +kernel
theorem d_MD_deposit_31 : decode b_MD_deposit 31 = .ok (.iload_n 3, 1) := by decide +kernel
theorem d_MD_deposit_32 : decode b_MD_deposit 32 = .ok (.iload 4, 2) := by decide +kernel
theorem d_MD_deposit_34 : decode b_MD_deposit 34 = .ok (.if_icmp .ge 14, 3) := by decide +kernel
theorem d_MD_deposit_37 : decode b_MD_deposit 37 = .ok (.iload 4, 2) := by decide +kernel
theorem d_MD_deposit_39 : decode b_MD_deposit 39 = .ok (.ldc 157, 2) := by decide +kernel
theorem d_MD_deposit_41 : decode b_MD_deposit 41 = .ok (.if_icmp .gt 7, 3) := by decide +kernel
theorem d_MD_deposit_44 : decode b_MD_deposit 44 = .ok (.iconst 1, 1) := by decide +kernel
theorem d_MD_deposit_45 : decode b_MD_deposit 45 = .ok (.goto 4, 3) := by decide +kernel
theorem d_MD_deposit_48 : decode b_MD_deposit 48 = .ok (.iconst 0, 1) := by decide +kernel
theorem d_MD_deposit_49 : decode b_MD_deposit 49 = .ok (.invokevirtual 150, 3) := by decide +kernel
theorem d_MD_deposit_52 : decode b_MD_deposit 52 = .ok (.istore 5, 2) := by decide +kernel
theorem d_MD_deposit_54 : decode b_MD_deposit 54 = .ok (.iload 5, 2) := by decide +kernel
theorem d_MD_deposit_56 : decode b_MD_deposit 56 = .ok (.ifCond .eq 6, 3) := by decide +kernel
theorem d_MD_deposit_59 : decode b_MD_deposit 59 = .ok (.iload 5, 2) := by decide +kernel
theorem d_MD_deposit_61 : decode b_MD_deposit 61 = .ok (.ireturn, 1) := by decide +kernel
theorem d_MD_deposit_62 : decode b_MD_deposit 62 = .ok (.aload_n 0, 1) := by decide +kernel
theorem d_MD_deposit_63 : decode b_MD_deposit 63 = .ok (.getfield 7, 3) := by decide +kernel
theorem d_MD_deposit_66 : decode b_MD_deposit 66 = .ok (.iload_n 1, 1) := by decide +kernel
theorem d_MD_deposit_67 : decode b_MD_deposit 67 = .ok (.baload, 1) := by decide +kernel
theorem d_MD_deposit_68 : decode b_MD_deposit 68 = .ok (.ifCond .ne 6, 3) := by decide +kernel
theorem d_MD_deposit_71 : decode b_MD_deposit 71 = .ok (.bipush 21, 2) := by decide +kernel
theorem d_MD_deposit_73 : decode b_MD_deposit 73 = .ok (.ireturn, 1) := by decide +kernel
theorem d_MD_deposit_74 : decode b_MD_deposit 74 = .ok (.aload_n 0, 1) := by decide +kernel
theorem d_MD_deposit_75 : decode b_MD_deposit 75 = .ok (.getfield 113, 3) := by decide +kernel
theorem d_MD_deposit_78 : decode b_MD_deposit 78 = .ok (.bipush 6, 2) := by decide +kernel
theorem d_MD_deposit_80 : decode b_MD_deposit 80 = .ok (.if_icmp .ne 6, 3) := by decide +kernel
theorem d_MD_deposit_83 : decode b_MD_deposit 83 = .ok (.bipush 23, 2) := by decide +kernel
theorem d_MD_deposit_85 : decode b_MD_deposit 85 = .ok (.ireturn, 1) := by decide +kernel
theorem d_MD_deposit_86 : decode b_MD_deposit 86 = .ok (.aload_n 0, 1) := by decide +kernel
theorem d_MD_deposit_87 : decode b_MD_deposit 87 = .ok (.getfield 13, 3) := by decide +kernel
theorem d_MD_deposit_90 : decode b_MD_deposit 90 = .ok (.aload_n 0, 1) := by decide +kernel
theorem d_MD_deposit_91 : decode b_MD_deposit 91 = .ok (.getfield 68, 3) := by decide +kernel
theorem d_MD_deposit_94 : decode b_MD_deposit 94 = .ok (.iaload, 1) := by decide +kernel
theorem d_MD_deposit_95 : decode b_MD_deposit 95 = .ok (.iload_n 2, 1) := by decide +kernel
theorem d_MD_deposit_96 : decode b_MD_deposit 96 = .ok (.aload_n 0, 1) := by decide +kernel
theorem d_MD_deposit_97 : decode b_MD_deposit 97 = .ok (.aload_n 0, 1) := by decide +kernel
theorem d_MD_deposit_98 : decode b_MD_deposit 98 = .ok (.getfield 68, 3) := by decide +kernel
theorem d_MD_deposit_101 : decode b_MD_deposit 101 = .ok (.invokevirtual 120, 3) := by decide +kernel
theorem d_MD_deposit_104 : decode b_MD_deposit 104 = .ok (.iadd, 1) := by decide +kernel
theorem d_MD_deposit_105 : decode b_MD_deposit 105 = .ok (.bipush 20, 2) := by decide +kernel
theorem d_MD_deposit_107 : decode b_MD_deposit 107 = .ok (.iadd, 1) := by decide +kernel
theorem d_MD_deposit_108 : decode b_MD_deposit 108 = .ok (.if_icmp .ge 6, 3) := by decide +kernel
theorem d_MD_deposit_111 : decode b_MD_deposit 111 = .ok (.bipush 22, 2) := by decide +kernel
theorem d_MD_deposit_113 : decode b_MD_deposit 113 = .ok (.ireturn, 1) := by decide +kernel
theorem d_MD_deposit_114 : decode b_MD_deposit 114 = .ok (.aload_n 0, 1) := by decide +kernel
theorem d_MD_deposit_115 : decode b_MD_deposit 115 = .ok (.getfield 13, 3) := by decide +kernel
theorem d_MD_deposit_118 : decode b_MD_deposit 118 = .ok (.aload_n 0, 1) := by decide +kernel
theorem d_MD_deposit_119 : decode b_MD_deposit 119 = .ok (.getfield 68, 3) := by decide +kernel
theorem d_MD_deposit_122 : decode b_MD_deposit 122 = .ok (.dup2, 1) := by decide +kernel
theorem d_MD_deposit_123 : decode b_MD_deposit 123 = .ok (.iaload, 1) := by decide +kernel
theorem d_MD_deposit_124 : decode b_MD_deposit 124 = .ok (.iload_n 2, 1) := by decide +kernel
theorem d_MD_deposit_125 : decode b_MD_deposit 125 = .ok (.isub, 1) := by decide +kernel
theorem d_MD_deposit_126 : decode b_MD_deposit 126 = .ok (.iastore, 1) := by decide +kernel
theorem d_MD_deposit_127 : decode b_MD_deposit 127 = .ok (.aload_n 0, 1) := by decide +kernel
theorem d_MD_deposit_128 : decode b_MD_deposit 128 = .ok (.dup, 1) := by decide +kernel
theorem d_MD_deposit_129 : decode b_MD_deposit 129 = .ok (.getfield 224, 3) := by decide +kernel
theorem d_MD_deposit_132 : decode b_MD_deposit 132 = .ok (.iconst 1, 1) := by decide +kernel
theorem d_MD_deposit_133 : decode b_MD_deposit 133 = .ok (.iadd, 1) := by decide +kernel
theorem d_MD_deposit_134 : decode b_MD_deposit 134 = .ok (.putfield 224, 3) := by decide +kernel
theorem d_MD_deposit_137 : decode b_MD_deposit 137 = .ok (.aload_n 0, 1) := by decide +kernel
theorem d_MD_deposit_138 : decode b_MD_deposit 138 = .ok (.getfield 50, 3) := by decide +kernel
theorem d_MD_deposit_141 : decode b_MD_deposit 141 = .ok (.aload_n 0, 1) := by decide +kernel
theorem d_MD_deposit_142 : decode b_MD_deposit 142 = .ok (.getfield 113, 3) := by decide +kernel
theorem d_MD_deposit_145 : decode b_MD_deposit 145 = .ok (.aload_n 0, 1) := by decide +kernel
theorem d_MD_deposit_146 : decode b_MD_deposit 146 = .ok (.getfield 224, 3) := by decide +kernel
theorem d_MD_deposit_149 : decode b_MD_deposit 149 = .ok (.iastore, 1) := by decide +kernel
theorem d_MD_deposit_150 : decode b_MD_deposit 150 = .ok (.aload_n 0, 1) := by decide +kernel
theorem d_MD_deposit_151 : decode b_MD_deposit 151 = .ok (.getfield 53, 3) := by decide +kernel
theorem d_MD_deposit_154 : decode b_MD_deposit 154 = .ok (.aload_n 0, 1) := by decide +kernel
theorem d_MD_deposit_155 : decode b_MD_deposit 155 = .ok (.getfield 113, 3) := by decide +kernel
theorem d_MD_deposit_158 : decode b_MD_deposit 158 = .ok (.aload_n 0, 1) := by decide +kernel
theorem d_MD_deposit_159 : decode b_MD_deposit 159 = .ok (.getfield 68, 3) := by decide +kernel
theorem d_MD_deposit_162 : decode b_MD_deposit 162 = .ok (.iastore, 1) := by decide +kernel
theorem d_MD_deposit_163 : decode b_MD_deposit 163 = .ok (.aload_n 0, 1) := by decide +kernel
theorem d_MD_deposit_164 : decode b_MD_deposit 164 = .ok (.getfield 56, 3) := by decide +kernel
theorem d_MD_deposit_167 : decode b_MD_deposit 167 = .ok (.aload_n 0, 1) := by decide +kernel
theorem d_MD_deposit_168 : decode b_MD_deposit 168 = .ok (.getfield 113, 3) := by decide +kernel
theorem d_MD_deposit_171 : decode b_MD_deposit 171 = .ok (.iload_n 1, 1) := by decide +kernel
theorem d_MD_deposit_172 : decode b_MD_deposit 172 = .ok (.iastore, 1) := by decide +kernel
theorem d_MD_deposit_173 : decode b_MD_deposit 173 = .ok (.aload_n 0, 1) := by decide +kernel
theorem d_MD_deposit_174 : decode b_MD_deposit 174 = .ok (.getfield 59, 3) := by decide +kernel
theorem d_MD_deposit_177 : decode b_MD_deposit 177 = .ok (.aload_n 0, 1) := by decide +kernel
theorem d_MD_deposit_178 : decode b_MD_deposit 178 = .ok (.getfield 113, 3) := by decide +kernel
theorem d_MD_deposit_181 : decode b_MD_deposit 181 = .ok (.iload_n 2, 1) := by decide +kernel
theorem d_MD_deposit_182 : decode b_MD_deposit 182 = .ok (.iastore, 1) := by decide +kernel
theorem d_MD_deposit_183 : decode b_MD_deposit 183 = .ok (.aload_n 0, 1) := by decide +kernel
theorem d_MD_deposit_184 : decode b_MD_deposit 184 = .ok (.getfield 62, 3) := by decide +kernel
theorem d_MD_deposit_187 : decode b_MD_deposit 187 = .ok (.aload_n 0, 1) := by decide +kernel
theorem d_MD_deposit_188 : decode b_MD_deposit 188 = .ok (.getfield 113, 3) := by decide +kernel
theorem d_MD_deposit_191 : decode b_MD_deposit 191 = .ok (.iload_n 3, 1) := by decide +kernel
theorem d_MD_deposit_192 : decode b_MD_deposit 192 = .ok (.iastore, 1) := by decide +kernel
theorem d_MD_deposit_193 : decode b_MD_deposit 193 = .ok (.aload_n 0, 1) := by decide +kernel
theorem d_MD_deposit_194 : decode b_MD_deposit 194 = .ok (.getfield 65, 3) := by decide +kernel
theorem d_MD_deposit_197 : decode b_MD_deposit 197 = .ok (.aload_n 0, 1) := by decide +kernel
theorem d_MD_deposit_198 : decode b_MD_deposit 198 = .ok (.getfield 113, 3) := by decide +kernel
theorem d_MD_deposit_201 : decode b_MD_deposit 201 = .ok (.iload 4, 2) := by decide +kernel
theorem d_MD_deposit_203 : decode b_MD_deposit 203 = .ok (.iastore, 1) := by decide +kernel
theorem d_MD_deposit_204 : decode b_MD_deposit 204 = .ok (.aload_n 0, 1) := by decide +kernel
theorem d_MD_deposit_205 : decode b_MD_deposit 205 = .ok (.dup, 1) := by decide +kernel
theorem d_MD_deposit_206 : decode b_MD_deposit 206 = .ok (.getfield 113, 3) := by decide +kernel
theorem d_MD_deposit_209 : decode b_MD_deposit 209 = .ok (.iconst 1, 1) := by decide +kernel
theorem d_MD_deposit_210 : decode b_MD_deposit 210 = .ok (.iadd, 1) := by decide +kernel
theorem d_MD_deposit_211 : decode b_MD_deposit 211 = .ok (.putfield 113, 3) := by decide +kernel
theorem d_MD_deposit_214 : decode b_MD_deposit 214 = .ok (.iconst 0, 1) := by decide +kernel
theorem d_MD_deposit_215 : decode b_MD_deposit 215 = .ok (.ireturn, 1) := by decide +kernel
def MD_deposit_c49 (x1 : Int32) (x2 : Int32) (x3 : Int32) (x4 : Int32) (s1 : Int32) (σ : ST) : Option (Int32 × ST) :=
  bd2 (MD_begin s1 σ) fun r49 σ49 =>
  if r49 = 0 then (if x1 < 0 ∨ 6 ≤ x1.toNatClampNeg then none else
  if (gA σ49 8 x1.toNatClampNeg) = 0 then (some ((21 : Int32), σ49))
  else (if (gI σ49 23) = (6 : Int32) then (some ((23 : Int32), σ49))
  else (if (gI σ49 25) < 0 ∨ 6 ≤ (gI σ49 25).toNatClampNeg then none else
  bd1 (MD_reserve (gI σ49 25) σ49) fun r101 =>
  if ((x2 + r101) + (20 : Int32)) ≤ (gA σ49 9 (gI σ49 25).toNatClampNeg) then (nmS (sA σ49 9 (gI σ49 25).toNatClampNeg ((gA σ49 9 (gI σ49 25).toNatClampNeg) - x2)) fun σ126 =>
  nmS (sI σ126 24 ((gI σ126 24) + (1 : Int32))) fun σ134 =>
  if (gI σ134 23) < 0 ∨ 6 ≤ (gI σ134 23).toNatClampNeg then none else
  nmS (sA σ134 21 (gI σ134 23).toNatClampNeg (gI σ134 24)) fun σ149 =>
  if (gI σ149 23) < 0 ∨ 6 ≤ (gI σ149 23).toNatClampNeg then none else
  nmS (sA σ149 22 (gI σ149 23).toNatClampNeg (gI σ149 25)) fun σ162 =>
  if (gI σ162 23) < 0 ∨ 6 ≤ (gI σ162 23).toNatClampNeg then none else
  nmS (sA σ162 23 (gI σ162 23).toNatClampNeg x1) fun σ172 =>
  if (gI σ172 23) < 0 ∨ 6 ≤ (gI σ172 23).toNatClampNeg then none else
  nmS (sA σ172 24 (gI σ172 23).toNatClampNeg x2) fun σ182 =>
  if (gI σ182 23) < 0 ∨ 6 ≤ (gI σ182 23).toNatClampNeg then none else
  nmS (sA σ182 25 (gI σ182 23).toNatClampNeg x3) fun σ192 =>
  if (gI σ192 23) < 0 ∨ 6 ≤ (gI σ192 23).toNatClampNeg then none else
  nmS (sA σ192 26 (gI σ192 23).toNatClampNeg x4) fun σ203 =>
  nmS (sI σ203 23 ((gI σ203 23) + (1 : Int32))) fun σ211 =>
  some ((0 : Int32), σ211))
  else (some ((22 : Int32), σ49)))))
  else (some (r49, σ49))
set_option maxRecDepth 100000 in
set_option maxHeartbeats 4000000 in
theorem w_MD_deposit_c49 {X : JX} (C : JC X l D (ttf cs) eE b_MD_deposit "TollLedgerModel" 6 (Cond.code y_MD_deposit b_MD_deposit 6 r_MD_deposit :: BIG) 3 65 0 0) {res : Int32 × ST} (Rt : JR X (wfm ad cs) 0 0 (PI res.1 res.2) r_MD_deposit "deposit")  (x1 : Int32) (x2 : Int32) (x3 : Int32) (x4 : Int32) (s1 : Int32) (σ : ST) (hf : MD_deposit_c49 x1 x2 x3 x4 s1 σ = some res) : J (wfm ad cs) X 6 0 0 σ 49 [(0, .ref (ad 18)), (1, .int x1), (2, .int x2), (3, .int x3), (4, .int x4)] [.int s1, .ref (ad 18)] := by
  unfold MD_deposit_c49 at hf
  obtain ⟨r49, σ49, h49, hf⟩ := o_b2 hf
  refine j_callV (ci := 10) (Cn := "TollLedgerModel") (T := T_MD) (N := 39) C [.int s1] [] (m_MD_begin _ _ _ _ _ s1 σ h49) (gdV wd_4_156 wd_4_158 wp_17 wd_1_11 wc_MD_begin) hy_MD_begin rfl ⟨18, rfl⟩ rfl rfl (by decide) (by decide) (by decide) (by decide) (Nat.le_of_ble_eq_true rfl) d_MD_deposit_49 (j_kI (r := r49) (σ1 := σ49) ?_)
  refine j_istore C (by decide) (loc' := [(5, .int r49), (0, .ref (ad 18)), (1, .int x1), (2, .int x2), (3, .int x3), (4, .int x4)]) rfl d_MD_deposit_52 ?_
  refine j_iload C 0 rfl d_MD_deposit_54 ?_
  refine j_if_eq C d_MD_deposit_56 rfl (fun c56 => ?_) (fun c56 => ?_)
  · have hf := o_it c56 hf
    refine j_aload_n C 1 rfl rfl d_MD_deposit_62 ?_
    refine g_MD_exists C (List.mem_cons_of_mem _ wd_4_19) d_MD_deposit_63 ?_
    refine j_iload_n C 2 rfl rfl d_MD_deposit_66 ?_
    obtain ⟨g67, hf⟩ := o_gn hf
    refine la_m_exists C g67 d_MD_deposit_67 ?_
    refine j_if_ne C d_MD_deposit_68 rfl (fun c68 => ?_) (fun c68 => ?_)
    · have hf := o_if c68 hf
      refine j_aload_n C 1 rfl rfl d_MD_deposit_74 ?_
      refine g_MD_deposits C (List.mem_cons_of_mem _ wd_4_34) d_MD_deposit_75 ?_
      refine j_bipush C (v := 6) (by decide) d_MD_deposit_78 ?_
      refine j_icmp_ne C d_MD_deposit_80 rfl (fun c80 => ?_) (fun c80 => ?_)
      · have hf := o_if c80 hf
        refine j_aload_n C 1 rfl rfl d_MD_deposit_86 ?_
        refine g_MD_coins C (List.mem_cons_of_mem _ wd_4_20) d_MD_deposit_87 ?_
        refine j_aload_n C 1 rfl rfl d_MD_deposit_90 ?_
        refine g_MD_me C (List.mem_cons_of_mem _ wd_4_42) d_MD_deposit_91 ?_
        obtain ⟨g94, hf⟩ := o_gn hf
        refine la_m_coins C g94 d_MD_deposit_94 ?_
        refine j_iload_n C 3 rfl rfl d_MD_deposit_95 ?_
        refine j_aload_n C 1 rfl rfl d_MD_deposit_96 ?_
        refine j_aload_n C 1 rfl rfl d_MD_deposit_97 ?_
        refine g_MD_me C (List.mem_cons_of_mem _ wd_4_42) d_MD_deposit_98 ?_
        obtain ⟨r101, h101, hf⟩ := o_b1 hf
        refine j_callV (ci := 10) (Cn := "TollLedgerModel") (T := T_MD) (N := 39) C [.int (gI σ49 25)] [.int x2, .int (gA σ49 9 (gI σ49 25).toNatClampNeg)] (m_MD_reserve _ _ _ _ _ (gI σ49 25) σ49 h101) (gdV wd_4_168 wd_4_170 wp_19 wd_1_11 wc_MD_reserve) hy_MD_reserve rfl ⟨18, rfl⟩ rfl rfl (by decide) (by decide) (by decide) (by decide) (Nat.le_of_ble_eq_true rfl) d_MD_deposit_101 (j_kI (r := r101) (σ1 := σ49) ?_)
        refine j_iadd C d_MD_deposit_104 ?_
        refine j_bipush C (v := 20) (by decide) d_MD_deposit_105 ?_
        refine j_iadd C d_MD_deposit_107 ?_
        refine j_icmp_ge C d_MD_deposit_108 rfl (fun c108 => ?_) (fun c108 => ?_)
        · have hf := o_it c108 hf
          refine j_aload_n C 1 rfl rfl d_MD_deposit_114 ?_
          refine g_MD_coins C (List.mem_cons_of_mem _ wd_4_20) d_MD_deposit_115 ?_
          refine j_aload_n C 1 rfl rfl d_MD_deposit_118 ?_
          refine g_MD_me C (List.mem_cons_of_mem _ wd_4_42) d_MD_deposit_119 ?_
          refine j_dup2 C rfl rfl d_MD_deposit_122 ?_
          refine la_m_coins C g94 d_MD_deposit_123 ?_
          refine j_iload_n C 3 rfl rfl d_MD_deposit_124 ?_
          refine j_isub C d_MD_deposit_125 ?_
          obtain ⟨σ126, eσ126, hf⟩ := o_nmS hf
          refine sa_m_coins C g94 eσ126 d_MD_deposit_126 ?_
          refine j_aload_n C 1 rfl rfl d_MD_deposit_127 ?_
          refine j_dup C rfl d_MD_deposit_128 ?_
          refine g_MD_lastDeposit C (List.mem_cons_of_mem _ wd_4_35) d_MD_deposit_129 ?_
          refine j_iconst C (v := 1) (by decide) d_MD_deposit_132 ?_
          refine j_iadd C d_MD_deposit_133 ?_
          obtain ⟨σ134, eσ134, hf⟩ := o_nmS hf
          refine p_MD_lastDeposit C eσ134 (List.mem_cons_of_mem _ wd_4_35) d_MD_deposit_134 ?_
          refine j_aload_n C 1 rfl rfl d_MD_deposit_137 ?_
          refine g_MD_depositId C (List.mem_cons_of_mem _ wd_4_36) d_MD_deposit_138 ?_
          refine j_aload_n C 1 rfl rfl d_MD_deposit_141 ?_
          refine g_MD_deposits C (List.mem_cons_of_mem _ wd_4_34) d_MD_deposit_142 ?_
          refine j_aload_n C 1 rfl rfl d_MD_deposit_145 ?_
          refine g_MD_lastDeposit C (List.mem_cons_of_mem _ wd_4_35) d_MD_deposit_146 ?_
          obtain ⟨g149, hf⟩ := o_gn hf
          obtain ⟨σ149, eσ149, hf⟩ := o_nmS hf
          refine sa_m_depositId C g149 eσ149 d_MD_deposit_149 ?_
          refine j_aload_n C 1 rfl rfl d_MD_deposit_150 ?_
          refine g_MD_fromOf C (List.mem_cons_of_mem _ wd_4_37) d_MD_deposit_151 ?_
          refine j_aload_n C 1 rfl rfl d_MD_deposit_154 ?_
          refine g_MD_deposits C (List.mem_cons_of_mem _ wd_4_34) d_MD_deposit_155 ?_
          refine j_aload_n C 1 rfl rfl d_MD_deposit_158 ?_
          refine g_MD_me C (List.mem_cons_of_mem _ wd_4_42) d_MD_deposit_159 ?_
          obtain ⟨g162, hf⟩ := o_gn hf
          obtain ⟨σ162, eσ162, hf⟩ := o_nmS hf
          refine sa_m_fromOf C g162 eσ162 d_MD_deposit_162 ?_
          refine j_aload_n C 1 rfl rfl d_MD_deposit_163 ?_
          refine g_MD_toOf C (List.mem_cons_of_mem _ wd_4_38) d_MD_deposit_164 ?_
          refine j_aload_n C 1 rfl rfl d_MD_deposit_167 ?_
          refine g_MD_deposits C (List.mem_cons_of_mem _ wd_4_34) d_MD_deposit_168 ?_
          refine j_iload_n C 2 rfl rfl d_MD_deposit_171 ?_
          obtain ⟨g172, hf⟩ := o_gn hf
          obtain ⟨σ172, eσ172, hf⟩ := o_nmS hf
          refine sa_m_toOf C g172 eσ172 d_MD_deposit_172 ?_
          refine j_aload_n C 1 rfl rfl d_MD_deposit_173 ?_
          refine g_MD_heldOf C (List.mem_cons_of_mem _ wd_4_39) d_MD_deposit_174 ?_
          refine j_aload_n C 1 rfl rfl d_MD_deposit_177 ?_
          refine g_MD_deposits C (List.mem_cons_of_mem _ wd_4_34) d_MD_deposit_178 ?_
          refine j_iload_n C 3 rfl rfl d_MD_deposit_181 ?_
          obtain ⟨g182, hf⟩ := o_gn hf
          obtain ⟨σ182, eσ182, hf⟩ := o_nmS hf
          refine sa_m_heldOf C g182 eσ182 d_MD_deposit_182 ?_
          refine j_aload_n C 1 rfl rfl d_MD_deposit_183 ?_
          refine g_MD_afterOf C (List.mem_cons_of_mem _ wd_4_40) d_MD_deposit_184 ?_
          refine j_aload_n C 1 rfl rfl d_MD_deposit_187 ?_
          refine g_MD_deposits C (List.mem_cons_of_mem _ wd_4_34) d_MD_deposit_188 ?_
          refine j_iload_n C 4 rfl rfl d_MD_deposit_191 ?_
          obtain ⟨g192, hf⟩ := o_gn hf
          obtain ⟨σ192, eσ192, hf⟩ := o_nmS hf
          refine sa_m_afterOf C g192 eσ192 d_MD_deposit_192 ?_
          refine j_aload_n C 1 rfl rfl d_MD_deposit_193 ?_
          refine g_MD_untilOf C (List.mem_cons_of_mem _ wd_4_41) d_MD_deposit_194 ?_
          refine j_aload_n C 1 rfl rfl d_MD_deposit_197 ?_
          refine g_MD_deposits C (List.mem_cons_of_mem _ wd_4_34) d_MD_deposit_198 ?_
          refine j_iload C 5 rfl d_MD_deposit_201 ?_
          obtain ⟨g203, hf⟩ := o_gn hf
          obtain ⟨σ203, eσ203, hf⟩ := o_nmS hf
          refine sa_m_untilOf C g203 eσ203 d_MD_deposit_203 ?_
          refine j_aload_n C 1 rfl rfl d_MD_deposit_204 ?_
          refine j_dup C rfl d_MD_deposit_205 ?_
          refine g_MD_deposits C (List.mem_cons_of_mem _ wd_4_34) d_MD_deposit_206 ?_
          refine j_iconst C (v := 1) (by decide) d_MD_deposit_209 ?_
          refine j_iadd C d_MD_deposit_210 ?_
          obtain ⟨σ211, eσ211, hf⟩ := o_nmS hf
          refine p_MD_deposits C eσ211 (List.mem_cons_of_mem _ wd_4_34) d_MD_deposit_211 ?_
          refine j_iconst C (v := 0) (by decide) d_MD_deposit_214 ?_
          have hf := Option.some.inj hf
          subst hf
          exact j_iret C Rt (Nat.zero_le _) (Nat.zero_le _) d_MD_deposit_215 ⟨rfl, rfl⟩
        · have hf := o_if c108 hf
          refine j_bipush C (v := 22) (by decide) d_MD_deposit_111 ?_
          have hf := Option.some.inj hf
          subst hf
          exact j_iret C Rt (Nat.zero_le _) (Nat.zero_le _) d_MD_deposit_113 ⟨rfl, rfl⟩
      · have hf := o_it c80 hf
        refine j_bipush C (v := 23) (by decide) d_MD_deposit_83 ?_
        have hf := Option.some.inj hf
        subst hf
        exact j_iret C Rt (Nat.zero_le _) (Nat.zero_le _) d_MD_deposit_85 ⟨rfl, rfl⟩
    · have hf := o_it c68 hf
      refine j_bipush C (v := 21) (by decide) d_MD_deposit_71 ?_
      have hf := Option.some.inj hf
      subst hf
      exact j_iret C Rt (Nat.zero_le _) (Nat.zero_le _) d_MD_deposit_73 ⟨rfl, rfl⟩
  · have hf := o_if c56 hf
    refine j_iload C 0 rfl d_MD_deposit_59 ?_
    have hf := Option.some.inj hf
    subst hf
    exact j_iret C Rt (Nat.zero_le _) (Nat.zero_le _) d_MD_deposit_61 ⟨rfl, rfl⟩
def MD_deposit (x1 : Int32) (x2 : Int32) (x3 : Int32) (x4 : Int32) (σ : ST) : Option (Int32 × ST) :=
  bd1 (MD_isAccount x1) fun r2 =>
  if r2 = 0 then (MD_deposit_c49 x1 x2 x3 x4 (0 : Int32) σ)
  else (if x1 = (gI σ 25) then (MD_deposit_c49 x1 x2 x3 x4 (0 : Int32) σ)
  else (if x2 < (1 : Int32) then (MD_deposit_c49 x1 x2 x3 x4 (0 : Int32) σ)
  else (if (1000000 : Int32) < x2 then (MD_deposit_c49 x1 x2 x3 x4 (0 : Int32) σ)
  else (if x3 < 0 then (MD_deposit_c49 x1 x2 x3 x4 (0 : Int32) σ)
  else (if x4 ≤ x3 then (MD_deposit_c49 x1 x2 x3 x4 (0 : Int32) σ)
  else (if (100000 : Int32) < x4 then (MD_deposit_c49 x1 x2 x3 x4 (0 : Int32) σ)
  else (MD_deposit_c49 x1 x2 x3 x4 (1 : Int32) σ)))))))
set_option maxRecDepth 100000 in
set_option maxHeartbeats 4000000 in
theorem m_MD_deposit (l : Launch) (D : va_G) (ad : Nat → Nat) (cs : Nat → ClassId) (eE : Nat × Nat) (x1 : Int32) (x2 : Int32) (x3 : Int32) (x4 : Int32) (σ : ST) {res : Int32 × ST} (hf : MD_deposit x1 x2 x3 x4 σ = some res) : MS l y_MD_deposit (Cond.code y_MD_deposit b_MD_deposit 6 r_MD_deposit :: BIG) 3 65 0 0 (wfm ad cs) D (ttf cs) eE [.ref (ad 18), .int x1, .int x2, .int x3, .int x4] σ (PI res.1 res.2) := by
  refine MS.of (cc := b_MD_deposit) (maxL := 6) (ret := r_MD_deposit) (by decide) rfl (Nat.le_of_ble_eq_true rfl) (loc := [(0, .ref (ad 18)), (1, .int x1), (2, .int x2), (3, .int x3), (4, .int x4)]) rfl (fun X C Rt => ?_)
  unfold MD_deposit at hf
  refine j_aload_n C 0 rfl rfl d_MD_deposit_0 ?_
  refine j_iload_n C 1 rfl rfl d_MD_deposit_1 ?_
  obtain ⟨r2, h2, hf⟩ := o_b1 hf
  refine j_callS C [.int x1] [.ref (ad 18)] (m_MD_isAccount _ _ _ _ _ x1 σ h2) (gdS wd_4_142 wd_4_143 wd_1_11 wc_MD_isAccount) hy_MD_isAccount rfl rfl (by decide) (by decide) (by decide) (by decide) (Nat.le_of_ble_eq_true rfl) d_MD_deposit_2 (j_kI (r := r2) (σ1 := σ) ?_)
  refine j_if_eq C d_MD_deposit_5 rfl (fun c5 => ?_) (fun c5 => ?_)
  · have hf := o_it c5 hf
    refine j_iconst C (v := 0) (by decide) d_MD_deposit_48 ?_
    exact w_MD_deposit_c49 C Rt  x1 x2 x3 x4 (0 : Int32) σ hf
  · have hf := o_if c5 hf
    refine j_iload_n C 1 rfl rfl d_MD_deposit_8 ?_
    refine j_aload_n C 0 rfl rfl d_MD_deposit_9 ?_
    refine g_MD_me C (List.mem_cons_of_mem _ wd_4_42) d_MD_deposit_10 ?_
    refine j_icmp_eq C d_MD_deposit_13 rfl (fun c13 => ?_) (fun c13 => ?_)
    · have hf := o_it c13 hf
      refine j_iconst C (v := 0) (by decide) d_MD_deposit_48 ?_
      exact w_MD_deposit_c49 C Rt  x1 x2 x3 x4 (0 : Int32) σ hf
    · have hf := o_if c13 hf
      refine j_iload_n C 2 rfl rfl d_MD_deposit_16 ?_
      refine j_iconst C (v := 1) (by decide) d_MD_deposit_17 ?_
      refine j_icmp_lt C d_MD_deposit_18 rfl (fun c18 => ?_) (fun c18 => ?_)
      · have hf := o_it c18 hf
        refine j_iconst C (v := 0) (by decide) d_MD_deposit_48 ?_
        exact w_MD_deposit_c49 C Rt  x1 x2 x3 x4 (0 : Int32) σ hf
      · have hf := o_if c18 hf
        refine j_iload_n C 2 rfl rfl d_MD_deposit_21 ?_
        refine j_ldc C (v := 1000000) (List.mem_cons_of_mem _ wd_4_18) d_MD_deposit_22 ?_
        refine j_icmp_gt C d_MD_deposit_24 rfl (fun c24 => ?_) (fun c24 => ?_)
        · have hf := o_it c24 hf
          refine j_iconst C (v := 0) (by decide) d_MD_deposit_48 ?_
          exact w_MD_deposit_c49 C Rt  x1 x2 x3 x4 (0 : Int32) σ hf
        · have hf := o_if c24 hf
          refine j_iload_n C 3 rfl rfl d_MD_deposit_27 ?_
          refine j_if_lt C d_MD_deposit_28 rfl (fun c28 => ?_) (fun c28 => ?_)
          · have hf := o_it c28 hf
            refine j_iconst C (v := 0) (by decide) d_MD_deposit_48 ?_
            exact w_MD_deposit_c49 C Rt  x1 x2 x3 x4 (0 : Int32) σ hf
          · have hf := o_if c28 hf
            refine j_iload_n C 3 rfl rfl d_MD_deposit_31 ?_
            refine j_iload C 4 rfl d_MD_deposit_32 ?_
            refine j_icmp_ge C d_MD_deposit_34 rfl (fun c34 => ?_) (fun c34 => ?_)
            · have hf := o_it c34 hf
              refine j_iconst C (v := 0) (by decide) d_MD_deposit_48 ?_
              exact w_MD_deposit_c49 C Rt  x1 x2 x3 x4 (0 : Int32) σ hf
            · have hf := o_if c34 hf
              refine j_iload C 4 rfl d_MD_deposit_37 ?_
              refine j_ldc C (v := 100000) (List.mem_cons_of_mem _ wd_4_193) d_MD_deposit_39 ?_
              refine j_icmp_gt C d_MD_deposit_41 rfl (fun c41 => ?_) (fun c41 => ?_)
              · have hf := o_it c41 hf
                refine j_iconst C (v := 0) (by decide) d_MD_deposit_48 ?_
                exact w_MD_deposit_c49 C Rt  x1 x2 x3 x4 (0 : Int32) σ hf
              · have hf := o_if c41 hf
                refine j_iconst C (v := 1) (by decide) d_MD_deposit_44 ?_
                refine j_goto C d_MD_deposit_45 rfl ?_
                exact w_MD_deposit_c49 C Rt  x1 x2 x3 x4 (1 : Int32) σ hf
theorem d_MD_findDeposit_0 : decode b_MD_findDeposit 0 = .ok (.iconst (-1), 1) := by decide +kernel
theorem d_MD_findDeposit_1 : decode b_MD_findDeposit 1 = .ok (.istore_n 2, 1) := by decide +kernel
theorem d_MD_findDeposit_2 : decode b_MD_findDeposit 2 = .ok (.iconst 0, 1) := by decide +kernel
theorem d_MD_findDeposit_3 : decode b_MD_findDeposit 3 = .ok (.istore_n 3, 1) := by decide +kernel
theorem d_MD_findDeposit_4 : decode b_MD_findDeposit 4 = .ok (.iload_n 3, 1) := by decide +kernel
theorem d_MD_findDeposit_5 : decode b_MD_findDeposit 5 = .ok (.aload_n 0, 1) := by decide +kernel
theorem d_MD_findDeposit_6 : decode b_MD_findDeposit 6 = .ok (.getfield 113, 3) := by decide +kernel
theorem d_MD_findDeposit_9 : decode b_MD_findDeposit 9 = .ok (.if_icmp .ge 25, 3) := by decide +kernel
theorem d_MD_findDeposit_12 : decode b_MD_findDeposit 12 = .ok (.aload_n 0, 1) := by decide +kernel
theorem d_MD_findDeposit_13 : decode b_MD_findDeposit 13 = .ok (.getfield 50, 3) := by decide +kernel
theorem d_MD_findDeposit_16 : decode b_MD_findDeposit 16 = .ok (.iload_n 3, 1) := by decide +kernel
theorem d_MD_findDeposit_17 : decode b_MD_findDeposit 17 = .ok (.iaload, 1) := by decide +kernel
theorem d_MD_findDeposit_18 : decode b_MD_findDeposit 18 = .ok (.iload_n 1, 1) := by decide +kernel
theorem d_MD_findDeposit_19 : decode b_MD_findDeposit 19 = .ok (.if_icmp .ne 7, 3) := by decide +kernel
theorem d_MD_findDeposit_22 : decode b_MD_findDeposit 22 = .ok (.iload_n 3, 1) := by decide +kernel
theorem d_MD_findDeposit_23 : decode b_MD_findDeposit 23 = .ok (.goto 4, 3) := by decide +kernel
theorem d_MD_findDeposit_26 : decode b_MD_findDeposit 26 = .ok (.iload_n 2, 1) := by decide +kernel
theorem d_MD_findDeposit_27 : decode b_MD_findDeposit 27 = .ok (.istore_n 2, 1) := by decide +kernel
theorem d_MD_findDeposit_28 : decode b_MD_findDeposit 28 = .ok (.iinc 3 1, 3) := by decide +kernel
theorem d_MD_findDeposit_31 : decode b_MD_findDeposit 31 = .ok (.goto (-27), 3) := by decide +kernel
theorem d_MD_findDeposit_34 : decode b_MD_findDeposit 34 = .ok (.iload_n 2, 1) := by decide +kernel
theorem d_MD_findDeposit_35 : decode b_MD_findDeposit 35 = .ok (.ireturn, 1) := by decide +kernel
def MD_findDeposit_b4 (kb4 : Int32 → Int32 → Int32 → ST → Option (Int32)) (x1 : Int32) (x2 : Int32) (x3 : Int32) (σ : ST) : Option (Int32) :=
  if (gI σ 23) ≤ x3 then (some x2)
  else (if x3 < 0 ∨ 6 ≤ x3.toNatClampNeg then none else
  if (gA σ 21 x3.toNatClampNeg) = x1 then (kb4 x1 x3 (x3 + 1) σ)
  else (kb4 x1 x2 (x3 + 1) σ))
set_option maxRecDepth 100000 in
set_option maxHeartbeats 4000000 in
theorem w_MD_findDeposit_b4 {X : JX} (C : JC X l D (ttf cs) eE b_MD_findDeposit "TollLedgerModel" 4 (Cond.code y_MD_findDeposit b_MD_findDeposit 4 r_MD_findDeposit :: BIG) 0 0 0 0) {σ : ST} {res : Int32} (Rt : JR X (wfm ad cs) 0 0 (PI res σ) r_MD_findDeposit "findDeposit") {kb4 : Int32 → Int32 → Int32 → ST → Option (Int32)} (hk4 : ∀ (x1 : Int32) (x2 : Int32) (x3 : Int32), kb4 x1 x2 x3 σ = some res → J (wfm ad cs) X 4 0 0 σ 4 [(0, .ref (ad 18)), (1, .int x1), (2, .int x2), (3, .int x3)] []) (x1 : Int32) (x2 : Int32) (x3 : Int32) (hf : MD_findDeposit_b4 kb4 x1 x2 x3 σ = some res) : J (wfm ad cs) X 4 0 0 σ 4 [(0, .ref (ad 18)), (1, .int x1), (2, .int x2), (3, .int x3)] [] := by
  unfold MD_findDeposit_b4 at hf
  refine j_iload_n C 3 rfl rfl d_MD_findDeposit_4 ?_
  refine j_aload_n C 0 rfl rfl d_MD_findDeposit_5 ?_
  refine g_MD_deposits C (List.mem_cons_of_mem _ wd_4_34) d_MD_findDeposit_6 ?_
  refine j_icmp_ge C d_MD_findDeposit_9 rfl (fun c9 => ?_) (fun c9 => ?_)
  · have hf := o_it c9 hf
    refine j_iload_n C 2 rfl rfl d_MD_findDeposit_34 ?_
    have hf := Option.some.inj hf
    subst hf
    exact j_iret C Rt (Nat.zero_le _) (Nat.zero_le _) d_MD_findDeposit_35 ⟨rfl, rfl⟩
  · have hf := o_if c9 hf
    refine j_aload_n C 0 rfl rfl d_MD_findDeposit_12 ?_
    refine g_MD_depositId C (List.mem_cons_of_mem _ wd_4_36) d_MD_findDeposit_13 ?_
    refine j_iload_n C 3 rfl rfl d_MD_findDeposit_16 ?_
    obtain ⟨g17, hf⟩ := o_gn hf
    refine la_m_depositId C g17 d_MD_findDeposit_17 ?_
    refine j_iload_n C 1 rfl rfl d_MD_findDeposit_18 ?_
    refine j_icmp_ne C d_MD_findDeposit_19 rfl (fun c19 => ?_) (fun c19 => ?_)
    · have hf := o_if c19 hf
      refine j_iload_n C 2 rfl rfl d_MD_findDeposit_26 ?_
      refine j_istore_n C rfl (by decide) (loc' := [(2, .int x2), (0, .ref (ad 18)), (1, .int x1), (3, .int x3)]) rfl d_MD_findDeposit_27 ?_
      refine j_iinc C 3 rfl (v := (x3 + 1)) (inc_p1 _) (by decide) (loc' := [(3, .int (x3 + 1)), (2, .int x2), (0, .ref (ad 18)), (1, .int x1)]) rfl d_MD_findDeposit_28 ?_
      refine j_goto C d_MD_findDeposit_31 rfl ?_
      refine j_sub [2, 3, 1, 0] rfl ?_
      exact hk4 x1 x2 (x3 + 1) hf
    · have hf := o_it c19 hf
      refine j_iload_n C 3 rfl rfl d_MD_findDeposit_22 ?_
      refine j_goto C d_MD_findDeposit_23 rfl ?_
      refine j_istore_n C rfl (by decide) (loc' := [(2, .int x3), (0, .ref (ad 18)), (1, .int x1), (3, .int x3)]) rfl d_MD_findDeposit_27 ?_
      refine j_iinc C 3 rfl (v := (x3 + 1)) (inc_p1 _) (by decide) (loc' := [(3, .int (x3 + 1)), (2, .int x3), (0, .ref (ad 18)), (1, .int x1)]) rfl d_MD_findDeposit_28 ?_
      refine j_goto C d_MD_findDeposit_31 rfl ?_
      refine j_sub [2, 3, 1, 0] rfl ?_
      exact hk4 x1 x3 (x3 + 1) hf
def MD_findDeposit_L4 : Nat → Int32 → Int32 → Int32 → ST → Option (Int32)
  | 0, _, _, _, _ => none
  | N + 1, x1, x2, x3, σ => MD_findDeposit_b4 (fun x1 x2 x3 σ => MD_findDeposit_L4 N x1 x2 x3 σ) x1 x2 x3 σ
theorem w_MD_findDeposit_L4 {X : JX} (C : JC X l D (ttf cs) eE b_MD_findDeposit "TollLedgerModel" 4 (Cond.code y_MD_findDeposit b_MD_findDeposit 4 r_MD_findDeposit :: BIG) 0 0 0 0) {σ : ST} {res : Int32} (Rt : JR X (wfm ad cs) 0 0 (PI res σ) r_MD_findDeposit "findDeposit")  (N : Nat) (x1 : Int32) (x2 : Int32) (x3 : Int32) (hf : MD_findDeposit_L4 N x1 x2 x3 σ = some res) : J (wfm ad cs) X 4 0 0 σ 4 [(0, .ref (ad 18)), (1, .int x1), (2, .int x2), (3, .int x3)] [] := by
  induction N generalizing x1 x2 x3 with
  | zero => exact nomatch hf
  | succ N ih => exact w_MD_findDeposit_b4 C Rt  (fun x1 x2 x3 h => ih x1 x2 x3 h) x1 x2 x3 hf
def MD_findDeposit (x1 : Int32) (σ : ST) : Option (Int32) :=
  MD_findDeposit_L4 FU x1 (-1 : Int32) (0 : Int32) σ
set_option maxRecDepth 100000 in
set_option maxHeartbeats 4000000 in
theorem m_MD_findDeposit (l : Launch) (D : va_G) (ad : Nat → Nat) (cs : Nat → ClassId) (eE : Nat × Nat) (x1 : Int32) (σ : ST) {res : Int32} (hf : MD_findDeposit x1 σ = some res) : MS l y_MD_findDeposit (Cond.code y_MD_findDeposit b_MD_findDeposit 4 r_MD_findDeposit :: BIG) 0 0 0 0 (wfm ad cs) D (ttf cs) eE [.ref (ad 18), .int x1] σ (PI res σ) := by
  refine MS.of (cc := b_MD_findDeposit) (maxL := 4) (ret := r_MD_findDeposit) (by decide) rfl (Nat.le_of_ble_eq_true rfl) (loc := [(0, .ref (ad 18)), (1, .int x1)]) rfl (fun X C Rt => ?_)
  unfold MD_findDeposit at hf
  refine j_iconst C (v := -1) (by decide) d_MD_findDeposit_0 ?_
  refine j_istore_n C rfl (by decide) (loc' := [(2, .int (-1 : Int32)), (0, .ref (ad 18)), (1, .int x1)]) rfl d_MD_findDeposit_1 ?_
  refine j_iconst C (v := 0) (by decide) d_MD_findDeposit_2 ?_
  refine j_istore_n C rfl (by decide) (loc' := [(3, .int (0 : Int32)), (2, .int (-1 : Int32)), (0, .ref (ad 18)), (1, .int x1)]) rfl d_MD_findDeposit_3 ?_
  refine j_sub [2, 3, 1, 0] rfl ?_
  exact w_MD_findDeposit_L4 C Rt  FU x1 (-1 : Int32) (0 : Int32) hf
theorem d_MD_depositOf_0 : decode b_MD_depositOf 0 = .ok (.aload_n 0, 1) := by decide +kernel
theorem d_MD_depositOf_1 : decode b_MD_depositOf 1 = .ok (.iload_n 1, 1) := by decide +kernel
theorem d_MD_depositOf_2 : decode b_MD_depositOf 2 = .ok (.invokevirtual 227, 3) := by decide +kernel
theorem d_MD_depositOf_5 : decode b_MD_depositOf 5 = .ok (.istore_n 2, 1) := by decide +kernel
theorem d_MD_depositOf_6 : decode b_MD_depositOf 6 = .ok (.iload_n 2, 1) := by decide +kernel
theorem d_MD_depositOf_7 : decode b_MD_depositOf 7 = .ok (.ifCond .ge 7, 3) := by decide +kernel
theorem d_MD_depositOf_10 : decode b_MD_depositOf 10 = .ok (.iconst (-1), 1) := by decide +kernel
theorem d_MD_depositOf_11 : decode b_MD_depositOf 11 = .ok (.goto 9, 3) := by decide +kernel
theorem d_MD_depositOf_14 : decode b_MD_depositOf 14 = .ok (.aload_n 0, 1) := by decide +kernel
theorem d_MD_depositOf_15 : decode b_MD_depositOf 15 = .ok (.getfield 59, 3) := by decide +kernel
theorem d_MD_depositOf_18 : decode b_MD_depositOf 18 = .ok (.iload_n 2, 1) := by decide +kernel
theorem d_MD_depositOf_19 : decode b_MD_depositOf 19 = .ok (.iaload, 1) := by decide +kernel
theorem d_MD_depositOf_20 : decode b_MD_depositOf 20 = .ok (.ireturn, 1) := by decide +kernel
def MD_depositOf (x1 : Int32) (σ : ST) : Option (Int32) :=
  bd1 (MD_findDeposit x1 σ) fun r2 =>
  if 0 ≤ r2 then (if r2 < 0 ∨ 6 ≤ r2.toNatClampNeg then none else
  some (gA σ 24 r2.toNatClampNeg))
  else (some (-1 : Int32))
set_option maxRecDepth 100000 in
set_option maxHeartbeats 4000000 in
theorem m_MD_depositOf (l : Launch) (D : va_G) (ad : Nat → Nat) (cs : Nat → ClassId) (eE : Nat × Nat) (x1 : Int32) (σ : ST) {res : Int32} (hf : MD_depositOf x1 σ = some res) : MS l y_MD_depositOf (Cond.code y_MD_depositOf b_MD_depositOf 3 r_MD_depositOf :: BIG) 1 23 0 0 (wfm ad cs) D (ttf cs) eE [.ref (ad 18), .int x1] σ (PI res σ) := by
  refine MS.of (cc := b_MD_depositOf) (maxL := 3) (ret := r_MD_depositOf) (by decide) rfl (Nat.le_of_ble_eq_true rfl) (loc := [(0, .ref (ad 18)), (1, .int x1)]) rfl (fun X C Rt => ?_)
  unfold MD_depositOf at hf
  refine j_aload_n C 0 rfl rfl d_MD_depositOf_0 ?_
  refine j_iload_n C 1 rfl rfl d_MD_depositOf_1 ?_
  obtain ⟨r2, h2, hf⟩ := o_b1 hf
  refine j_callV (ci := 10) (Cn := "TollLedgerModel") (T := T_MD) (N := 39) C [.int x1] [] (m_MD_findDeposit _ _ _ _ _ x1 σ h2) (gdV wd_5_37 wd_5_39 wp_36 wd_1_11 wc_MD_findDeposit) hy_MD_findDeposit rfl ⟨18, rfl⟩ rfl rfl (by decide) (by decide) (by decide) (by decide) (Nat.le_of_ble_eq_true rfl) d_MD_depositOf_2 (j_kI (r := r2) (σ1 := σ) ?_)
  refine j_istore_n C rfl (by decide) (loc' := [(2, .int r2), (0, .ref (ad 18)), (1, .int x1)]) rfl d_MD_depositOf_5 ?_
  refine j_iload_n C 0 rfl rfl d_MD_depositOf_6 ?_
  refine j_if_ge C d_MD_depositOf_7 rfl (fun c7 => ?_) (fun c7 => ?_)
  · have hf := o_it c7 hf
    refine j_aload_n C 1 rfl rfl d_MD_depositOf_14 ?_
    refine g_MD_heldOf C (List.mem_cons_of_mem _ wd_4_39) d_MD_depositOf_15 ?_
    refine j_iload_n C 0 rfl rfl d_MD_depositOf_18 ?_
    obtain ⟨g19, hf⟩ := o_gn hf
    refine la_m_heldOf C g19 d_MD_depositOf_19 ?_
    have hf := Option.some.inj hf
    subst hf
    exact j_iret C Rt (Nat.zero_le _) (Nat.zero_le _) d_MD_depositOf_20 ⟨rfl, rfl⟩
  · have hf := o_if c7 hf
    refine j_iconst C (v := -1) (by decide) d_MD_depositOf_10 ?_
    refine j_goto C d_MD_depositOf_11 rfl ?_
    have hf := Option.some.inj hf
    subst hf
    exact j_iret C Rt (Nat.zero_le _) (Nat.zero_le _) d_MD_depositOf_20 ⟨rfl, rfl⟩
theorem d_MD_funds_0 : decode b_MD_funds 0 = .ok (.iload_n 1, 1) := by decide +kernel
theorem d_MD_funds_1 : decode b_MD_funds 1 = .ok (.invokestatic 137, 3) := by decide +kernel
theorem d_MD_funds_4 : decode b_MD_funds 4 = .ok (.ifCond .eq 28, 3) := by decide +kernel
theorem d_MD_funds_7 : decode b_MD_funds 7 = .ok (.iload_n 2, 1) := by decide +kernel
theorem d_MD_funds_8 : decode b_MD_funds 8 = .ok (.invokestatic 140, 3) := by decide +kernel
theorem d_MD_funds_11 : decode b_MD_funds 11 = .ok (.ifCond .eq 21, 3) := by decide +kernel
theorem d_MD_funds_14 : decode b_MD_funds 14 = .ok (.aload_n 0, 1) := by decide +kernel
theorem d_MD_funds_15 : decode b_MD_funds 15 = .ok (.getfield 7, 3) := by decide +kernel
theorem d_MD_funds_18 : decode b_MD_funds 18 = .ok (.iload_n 1, 1) := by decide +kernel
theorem d_MD_funds_19 : decode b_MD_funds 19 = .ok (.baload, 1) := by decide +kernel
theorem d_MD_funds_20 : decode b_MD_funds 20 = .ok (.ifCond .eq 12, 3) := by decide +kernel
theorem d_MD_funds_23 : decode b_MD_funds 23 = .ok (.aload_n 0, 1) := by decide +kernel
theorem d_MD_funds_24 : decode b_MD_funds 24 = .ok (.iload_n 1, 1) := by decide +kernel
theorem d_MD_funds_25 : decode b_MD_funds 25 = .ok (.iload_n 2, 1) := by decide +kernel
theorem d_MD_funds_26 : decode b_MD_funds 26 = .ok (.invokevirtual 154, 3) := by decide +kernel
theorem d_MD_funds_29 : decode b_MD_funds 29 = .ok (.goto 4, 3) := by decide +kernel
theorem d_MD_funds_32 : decode b_MD_funds 32 = .ok (.iconst (-1), 1) := by decide +kernel
theorem d_MD_funds_33 : decode b_MD_funds 33 = .ok (.ireturn, 1) := by decide +kernel
def MD_funds (x1 : Int32) (x2 : Int32) (σ : ST) : Option (Int32) :=
  bd1 (MD_isAccount x1) fun r1 =>
  if r1 = 0 then (some (-1 : Int32))
  else (bd1 (MD_isAsset x2) fun r8 =>
  if r8 = 0 then (some (-1 : Int32))
  else (if x1 < 0 ∨ 6 ≤ x1.toNatClampNeg then none else
  if (gA σ 8 x1.toNatClampNeg) = 0 then (some (-1 : Int32))
  else (bd1 (MD_fundsIn x1 x2 σ) fun r26 =>
  some r26)))
set_option maxRecDepth 100000 in
set_option maxHeartbeats 4000000 in
theorem m_MD_funds (l : Launch) (D : va_G) (ad : Nat → Nat) (cs : Nat → ClassId) (eE : Nat × Nat) (x1 : Int32) (x2 : Int32) (σ : ST) {res : Int32} (hf : MD_funds x1 x2 σ = some res) : MS l y_MD_funds (Cond.code y_MD_funds b_MD_funds 3 r_MD_funds :: BIG) 4 88 0 0 (wfm ad cs) D (ttf cs) eE [.ref (ad 18), .int x1, .int x2] σ (PI res σ) := by
  refine MS.of (cc := b_MD_funds) (maxL := 3) (ret := r_MD_funds) (by decide) rfl (Nat.le_of_ble_eq_true rfl) (loc := [(0, .ref (ad 18)), (1, .int x1), (2, .int x2)]) rfl (fun X C Rt => ?_)
  unfold MD_funds at hf
  refine j_iload_n C 1 rfl rfl d_MD_funds_0 ?_
  obtain ⟨r1, h1, hf⟩ := o_b1 hf
  refine j_callS C [.int x1] [] (m_MD_isAccount _ _ _ _ _ x1 σ h1) (gdS wd_4_142 wd_4_143 wd_1_11 wc_MD_isAccount) hy_MD_isAccount rfl rfl (by decide) (by decide) (by decide) (by decide) (Nat.le_of_ble_eq_true rfl) d_MD_funds_1 (j_kI (r := r1) (σ1 := σ) ?_)
  refine j_if_eq C d_MD_funds_4 rfl (fun c4 => ?_) (fun c4 => ?_)
  · have hf := o_it c4 hf
    refine j_iconst C (v := -1) (by decide) d_MD_funds_32 ?_
    have hf := Option.some.inj hf
    subst hf
    exact j_iret C Rt (Nat.zero_le _) (Nat.zero_le _) d_MD_funds_33 ⟨rfl, rfl⟩
  · have hf := o_if c4 hf
    refine j_iload_n C 2 rfl rfl d_MD_funds_7 ?_
    obtain ⟨r8, h8, hf⟩ := o_b1 hf
    refine j_callS C [.int x2] [] (m_MD_isAsset _ _ _ _ _ x2 σ h8) (gdS wd_4_149 wd_4_150 wd_1_11 wc_MD_isAsset) hy_MD_isAsset rfl rfl (by decide) (by decide) (by decide) (by decide) (Nat.le_of_ble_eq_true rfl) d_MD_funds_8 (j_kI (r := r8) (σ1 := σ) ?_)
    refine j_if_eq C d_MD_funds_11 rfl (fun c11 => ?_) (fun c11 => ?_)
    · have hf := o_it c11 hf
      refine j_iconst C (v := -1) (by decide) d_MD_funds_32 ?_
      have hf := Option.some.inj hf
      subst hf
      exact j_iret C Rt (Nat.zero_le _) (Nat.zero_le _) d_MD_funds_33 ⟨rfl, rfl⟩
    · have hf := o_if c11 hf
      refine j_aload_n C 0 rfl rfl d_MD_funds_14 ?_
      refine g_MD_exists C (List.mem_cons_of_mem _ wd_4_19) d_MD_funds_15 ?_
      refine j_iload_n C 1 rfl rfl d_MD_funds_18 ?_
      obtain ⟨g19, hf⟩ := o_gn hf
      refine la_m_exists C g19 d_MD_funds_19 ?_
      refine j_if_eq C d_MD_funds_20 rfl (fun c20 => ?_) (fun c20 => ?_)
      · have hf := o_it c20 hf
        refine j_iconst C (v := -1) (by decide) d_MD_funds_32 ?_
        have hf := Option.some.inj hf
        subst hf
        exact j_iret C Rt (Nat.zero_le _) (Nat.zero_le _) d_MD_funds_33 ⟨rfl, rfl⟩
      · have hf := o_if c20 hf
        refine j_aload_n C 0 rfl rfl d_MD_funds_23 ?_
        refine j_iload_n C 1 rfl rfl d_MD_funds_24 ?_
        refine j_iload_n C 2 rfl rfl d_MD_funds_25 ?_
        obtain ⟨r26, h26, hf⟩ := o_b1 hf
        refine j_callV (ci := 10) (Cn := "TollLedgerModel") (T := T_MD) (N := 39) C [.int x1, .int x2] [] (m_MD_fundsIn _ _ _ _ _ x1 x2 σ h26) (gdV wd_4_160 wd_4_162 wp_18 wd_1_11 wc_MD_fundsIn) hy_MD_fundsIn rfl ⟨18, rfl⟩ rfl rfl (by decide) (by decide) (by decide) (by decide) (Nat.le_of_ble_eq_true rfl) d_MD_funds_26 (j_kI (r := r26) (σ1 := σ) ?_)
        refine j_goto C d_MD_funds_29 rfl ?_
        have hf := Option.some.inj hf
        subst hf
        exact j_iret C Rt (Nat.zero_le _) (Nat.zero_le _) d_MD_funds_33 ⟨rfl, rfl⟩
theorem d_MD_join_0 : decode b_MD_join 0 = .ok (.bipush 31, 2) := by decide +kernel
theorem d_MD_join_2 : decode b_MD_join 2 = .ok (.iload_n 0, 1) := by decide +kernel
theorem d_MD_join_3 : decode b_MD_join 3 = .ok (.imul, 1) := by decide +kernel
theorem d_MD_join_4 : decode b_MD_join 4 = .ok (.iload_n 1, 1) := by decide +kernel
theorem d_MD_join_5 : decode b_MD_join 5 = .ok (.iadd, 1) := by decide +kernel
theorem d_MD_join_6 : decode b_MD_join 6 = .ok (.istore_n 2, 1) := by decide +kernel
theorem d_MD_join_7 : decode b_MD_join 7 = .ok (.iload_n 2, 1) := by decide +kernel
theorem d_MD_join_8 : decode b_MD_join 8 = .ok (.iload_n 2, 1) := by decide +kernel
theorem d_MD_join_9 : decode b_MD_join 9 = .ok (.bipush 11, 2) := by decide +kernel
theorem d_MD_join_11 : decode b_MD_join 11 = .ok (.iushr, 1) := by decide +kernel
theorem d_MD_join_12 : decode b_MD_join 12 = .ok (.ixor, 1) := by decide +kernel
theorem d_MD_join_13 : decode b_MD_join 13 = .ok (.ireturn, 1) := by decide +kernel
def MD_join (x0 : Int32) (x1 : Int32) : Option (Int32) :=
  nmI (((31 : Int32) * x0) + x1) fun x2_6 =>
  some (x2_6 ^^^ (ushr x2_6 (11 : Int32)))
set_option maxRecDepth 100000 in
set_option maxHeartbeats 4000000 in
theorem m_MD_join (l : Launch) (D : va_G) (ad : Nat → Nat) (cs : Nat → ClassId) (eE : Nat × Nat) (x0 : Int32) (x1 : Int32) (σ : ST) {res : Int32} (hf : MD_join x0 x1 = some res) : MS l y_MD_join (Cond.code y_MD_join b_MD_join 3 r_MD_join :: BIG) 0 0 0 0 (wfm ad cs) D (ttf cs) eE [.int x0, .int x1] σ (PI res σ) := by
  refine MS.of (cc := b_MD_join) (maxL := 3) (ret := r_MD_join) (by decide) rfl (Nat.le_of_ble_eq_true rfl) (loc := [(0, .int x0), (1, .int x1)]) rfl (fun X C Rt => ?_)
  unfold MD_join at hf
  refine j_bipush C (v := 31) (by decide) d_MD_join_0 ?_
  refine j_iload_n C 0 rfl rfl d_MD_join_2 ?_
  refine j_imul C d_MD_join_3 ?_
  refine j_iload_n C 1 rfl rfl d_MD_join_4 ?_
  refine j_iadd C d_MD_join_5 ?_
  obtain ⟨x2_6, ex2_6, hf⟩ := o_nmI hf
  refine j_topI ex2_6 ?_
  refine j_istore_n C rfl (by decide) (loc' := [(2, .int x2_6), (0, .int x0), (1, .int x1)]) rfl d_MD_join_6 ?_
  refine j_iload_n C 0 rfl rfl d_MD_join_7 ?_
  refine j_iload_n C 0 rfl rfl d_MD_join_8 ?_
  refine j_bipush C (v := 11) (by decide) d_MD_join_9 ?_
  refine j_iushr C d_MD_join_11 ?_
  refine j_ixor C d_MD_join_12 ?_
  have hf := Option.some.inj hf
  subst hf
  exact j_iret C Rt (Nat.zero_le _) (Nat.zero_le _) d_MD_join_13 ⟨rfl, rfl⟩
theorem d_MD_lineLeaf_0 : decode b_MD_lineLeaf 0 = .ok (.iload_n 1, 1) := by decide +kernel
theorem d_MD_lineLeaf_1 : decode b_MD_lineLeaf 1 = .ok (.iconst 2, 1) := by decide +kernel
theorem d_MD_lineLeaf_2 : decode b_MD_lineLeaf 2 = .ok (.idiv, 1) := by decide +kernel
theorem d_MD_lineLeaf_3 : decode b_MD_lineLeaf 3 = .ok (.istore_n 2, 1) := by decide +kernel
theorem d_MD_lineLeaf_4 : decode b_MD_lineLeaf 4 = .ok (.iconst 1, 1) := by decide +kernel
theorem d_MD_lineLeaf_5 : decode b_MD_lineLeaf 5 = .ok (.iload_n 1, 1) := by decide +kernel
theorem d_MD_lineLeaf_6 : decode b_MD_lineLeaf 6 = .ok (.iconst 2, 1) := by decide +kernel
theorem d_MD_lineLeaf_7 : decode b_MD_lineLeaf 7 = .ok (.irem, 1) := by decide +kernel
theorem d_MD_lineLeaf_8 : decode b_MD_lineLeaf 8 = .ok (.iadd, 1) := by decide +kernel
theorem d_MD_lineLeaf_9 : decode b_MD_lineLeaf 9 = .ok (.istore_n 3, 1) := by decide +kernel
theorem d_MD_lineLeaf_10 : decode b_MD_lineLeaf 10 = .ok (.iconst 0, 1) := by decide +kernel
theorem d_MD_lineLeaf_11 : decode b_MD_lineLeaf 11 = .ok (.istore 4, 2) := by decide +kernel
theorem d_MD_lineLeaf_13 : decode b_MD_lineLeaf 13 = .ok (.iconst 0, 1) := by decide +kernel
theorem d_MD_lineLeaf_14 : decode b_MD_lineLeaf 14 = .ok (.istore 5, 2) := by decide +kernel
theorem d_MD_lineLeaf_16 : decode b_MD_lineLeaf 16 = .ok (.iload 5, 2) := by decide +kernel
theorem d_MD_lineLeaf_18 : decode b_MD_lineLeaf 18 = .ok (.bipush 6, 2) := by decide +kernel
theorem d_MD_lineLeaf_20 : decode b_MD_lineLeaf 20 = .ok (.if_icmp .ge 121, 3) := by decide +kernel
theorem d_MD_lineLeaf_23 : decode b_MD_lineLeaf 23 = .ok (.iload 5, 2) := by decide +kernel
theorem d_MD_lineLeaf_25 : decode b_MD_lineLeaf 25 = .ok (.iconst 1, 1) := by decide +kernel
theorem d_MD_lineLeaf_26 : decode b_MD_lineLeaf 26 = .ok (.iadd, 1) := by decide +kernel
theorem d_MD_lineLeaf_27 : decode b_MD_lineLeaf 27 = .ok (.istore 6, 2) := by decide +kernel
theorem d_MD_lineLeaf_29 : decode b_MD_lineLeaf 29 = .ok (.iload 6, 2) := by decide +kernel
theorem d_MD_lineLeaf_31 : decode b_MD_lineLeaf 31 = .ok (.bipush 6, 2) := by decide +kernel
theorem d_MD_lineLeaf_33 : decode b_MD_lineLeaf 33 = .ok (.if_icmp .ge 102, 3) := by decide +kernel
theorem d_MD_lineLeaf_36 : decode b_MD_lineLeaf 36 = .ok (.iload 4, 2) := by decide +kernel
theorem d_MD_lineLeaf_38 : decode b_MD_lineLeaf 38 = .ok (.iload_n 2, 1) := by decide +kernel
theorem d_MD_lineLeaf_39 : decode b_MD_lineLeaf 39 = .ok (.if_icmp .ne 87, 3) := by decide +kernel
theorem d_MD_lineLeaf_42 : decode b_MD_lineLeaf 42 = .ok (.iload 5, 2) := by decide +kernel
theorem d_MD_lineLeaf_44 : decode b_MD_lineLeaf 44 = .ok (.iload 6, 2) := by decide +kernel
theorem d_MD_lineLeaf_46 : decode b_MD_lineLeaf 46 = .ok (.iload_n 3, 1) := by decide +kernel
theorem d_MD_lineLeaf_47 : decode b_MD_lineLeaf 47 = .ok (.invokestatic 102, 3) := by decide +kernel
theorem d_MD_lineLeaf_50 : decode b_MD_lineLeaf 50 = .ok (.istore 7, 2) := by decide +kernel
theorem d_MD_lineLeaf_52 : decode b_MD_lineLeaf 52 = .ok (.iload 6, 2) := by decide +kernel
theorem d_MD_lineLeaf_54 : decode b_MD_lineLeaf 54 = .ok (.iload 5, 2) := by decide +kernel
theorem d_MD_lineLeaf_56 : decode b_MD_lineLeaf 56 = .ok (.iload_n 3, 1) := by decide +kernel
theorem d_MD_lineLeaf_57 : decode b_MD_lineLeaf 57 = .ok (.invokestatic 102, 3) := by decide +kernel
theorem d_MD_lineLeaf_60 : decode b_MD_lineLeaf 60 = .ok (.istore 8, 2) := by decide +kernel
theorem d_MD_lineLeaf_62 : decode b_MD_lineLeaf 62 = .ok (.aload_n 0, 1) := by decide +kernel
theorem d_MD_lineLeaf_63 : decode b_MD_lineLeaf 63 = .ok (.getfield 23, 3) := by decide +kernel
theorem d_MD_lineLeaf_66 : decode b_MD_lineLeaf 66 = .ok (.iload 7, 2) := by decide +kernel
theorem d_MD_lineLeaf_68 : decode b_MD_lineLeaf 68 = .ok (.iaload, 1) := by decide +kernel
theorem d_MD_lineLeaf_69 : decode b_MD_lineLeaf 69 = .ok (.bipush 31, 2) := by decide +kernel
theorem d_MD_lineLeaf_71 : decode b_MD_lineLeaf 71 = .ok (.aload_n 0, 1) := by decide +kernel
theorem d_MD_lineLeaf_72 : decode b_MD_lineLeaf 72 = .ok (.getfield 26, 3) := by decide +kernel
theorem d_MD_lineLeaf_75 : decode b_MD_lineLeaf 75 = .ok (.iload 7, 2) := by decide +kernel
theorem d_MD_lineLeaf_77 : decode b_MD_lineLeaf 77 = .ok (.iaload, 1) := by decide +kernel
theorem d_MD_lineLeaf_78 : decode b_MD_lineLeaf 78 = .ok (.imul, 1) := by decide +kernel
theorem d_MD_lineLeaf_79 : decode b_MD_lineLeaf 79 = .ok (.iadd, 1) := by decide +kernel
theorem d_MD_lineLeaf_80 : decode b_MD_lineLeaf 80 = .ok (.bipush 17, 2) := by decide +kernel
theorem d_MD_lineLeaf_82 : decode b_MD_lineLeaf 82 = .ok (.aload_n 0, 1) := by decide +kernel
theorem d_MD_lineLeaf_83 : decode b_MD_lineLeaf 83 = .ok (.getfield 26, 3) := by decide +kernel
theorem d_MD_lineLeaf_86 : decode b_MD_lineLeaf 86 = .ok (.iload 8, 2) := by decide +kernel
theorem d_MD_lineLeaf_88 : decode b_MD_lineLeaf 88 = .ok (.iaload, 1) := by decide +kernel
theorem d_MD_lineLeaf_89 : decode b_MD_lineLeaf 89 = .ok (.imul, 1) := by decide +kernel
theorem d_MD_lineLeaf_90 : decode b_MD_lineLeaf 90 = .ok (.iadd, 1) := by decide +kernel
theorem d_MD_lineLeaf_91 : decode b_MD_lineLeaf 91 = .ok (.aload_n 0, 1) := by decide +kernel
theorem d_MD_lineLeaf_92 : decode b_MD_lineLeaf 92 = .ok (.getfield 29, 3) := by decide +kernel
theorem d_MD_lineLeaf_95 : decode b_MD_lineLeaf 95 = .ok (.iload 7, 2) := by decide +kernel
theorem d_MD_lineLeaf_97 : decode b_MD_lineLeaf 97 = .ok (.baload, 1) := by decide +kernel
theorem d_MD_lineLeaf_98 : decode b_MD_lineLeaf 98 = .ok (.ifCond .eq 8, 3) := by decide +kernel
theorem d_MD_lineLeaf_101 : decode b_MD_lineLeaf 101 = .ok (.ldc 236, 2) := by decide +kernel
theorem d_MD_lineLeaf_103 : decode b_MD_lineLeaf 103 = .ok (.goto 4, 3) := by decide +kernel
theorem d_MD_lineLeaf_106 : decode b_MD_lineLeaf 106 = .ok (.iconst 0, 1) := by decide +kernel
theorem d_MD_lineLeaf_107 : decode b_MD_lineLeaf 107 = .ok (.iadd, 1) := by decide +kernel
theorem d_MD_lineLeaf_108 : decode b_MD_lineLeaf 108 = .ok (.aload_n 0, 1) := by decide +kernel
theorem d_MD_lineLeaf_109 : decode b_MD_lineLeaf 109 = .ok (.getfield 29, 3) := by decide +kernel
theorem d_MD_lineLeaf_112 : decode b_MD_lineLeaf 112 = .ok (.iload 8, 2) := by decide +kernel
theorem d_MD_lineLeaf_114 : decode b_MD_lineLeaf 114 = .ok (.baload, 1) := by decide +kernel
theorem d_MD_lineLeaf_115 : decode b_MD_lineLeaf 115 = .ok (.ifCond .eq 8, 3) := by decide +kernel
theorem d_MD_lineLeaf_118 : decode b_MD_lineLeaf 118 = .ok (.ldc 237, 2) := by decide +kernel
theorem d_MD_lineLeaf_120 : decode b_MD_lineLeaf 120 = .ok (.goto 4, 3) := by decide +kernel
theorem d_MD_lineLeaf_123 : decode b_MD_lineLeaf 123 = .ok (.iconst 0, 1) := by decide +kernel
theorem d_MD_lineLeaf_124 : decode b_MD_lineLeaf 124 = .ok (.iadd, 1) := by decide +kernel
theorem d_MD_lineLeaf_125 : decode b_MD_lineLeaf 125 = .ok (.ireturn, 1) := by decide +kernel
theorem d_MD_lineLeaf_126 : decode b_MD_lineLeaf 126 = .ok (.iinc 4 1, 3) := by decide +kernel
theorem d_MD_lineLeaf_129 : decode b_MD_lineLeaf 129 = .ok (.iinc 6 1, 3) := by decide +kernel
theorem d_MD_lineLeaf_132 : decode b_MD_lineLeaf 132 = .ok (.goto (-103), 3) := by decide +kernel
theorem d_MD_lineLeaf_135 : decode b_MD_lineLeaf 135 = .ok (.iinc 5 1, 3) := by decide +kernel
theorem d_MD_lineLeaf_138 : decode b_MD_lineLeaf 138 = .ok (.goto (-122), 3) := by decide +kernel
theorem d_MD_lineLeaf_141 : decode b_MD_lineLeaf 141 = .ok (.iconst 0, 1) := by decide +kernel
theorem d_MD_lineLeaf_142 : decode b_MD_lineLeaf 142 = .ok (.ireturn, 1) := by decide +kernel
def MD_lineLeaf_c107 (x8 : Int32) (s0 : Int32) (s1 : Int32) (σ : ST) : Option (Int32) :=
  if x8 < 0 ∨ 72 ≤ x8.toNatClampNeg then none else
  if (gA σ 14 x8.toNatClampNeg) = 0 then (some ((s0 + s1) + (0 : Int32)))
  else (some ((s0 + s1) + (2000003 : Int32)))
set_option maxRecDepth 100000 in
set_option maxHeartbeats 4000000 in
theorem w_MD_lineLeaf_c107 {X : JX} (C : JC X l D (ttf cs) eE b_MD_lineLeaf "TollLedgerModel" 9 (Cond.code y_MD_lineLeaf b_MD_lineLeaf 9 r_MD_lineLeaf :: BIG) 1 22 0 0) {σ : ST} {res : Int32} (Rt : JR X (wfm ad cs) 0 0 (PI res σ) r_MD_lineLeaf "lineLeaf")  (x8 : Int32) (s0 : Int32) (s1 : Int32) (hf : MD_lineLeaf_c107 x8 s0 s1 σ = some res) : J (wfm ad cs) X 9 0 0 σ 107 [(0, .ref (ad 18)), (8, .int x8)] [.int s1, .int s0] := by
  unfold MD_lineLeaf_c107 at hf
  refine j_iadd C d_MD_lineLeaf_107 ?_
  refine j_aload_n C 0 rfl rfl d_MD_lineLeaf_108 ?_
  refine g_MD_quiets C (List.mem_cons_of_mem _ wd_4_25) d_MD_lineLeaf_109 ?_
  refine j_iload C 1 rfl d_MD_lineLeaf_112 ?_
  obtain ⟨g114, hf⟩ := o_gn hf
  refine la_m_quiets C g114 d_MD_lineLeaf_114 ?_
  refine j_if_eq C d_MD_lineLeaf_115 rfl (fun c115 => ?_) (fun c115 => ?_)
  · have hf := o_it c115 hf
    refine j_iconst C (v := 0) (by decide) d_MD_lineLeaf_123 ?_
    refine j_iadd C d_MD_lineLeaf_124 ?_
    have hf := Option.some.inj hf
    subst hf
    exact j_iret C Rt (Nat.zero_le _) (Nat.zero_le _) d_MD_lineLeaf_125 ⟨rfl, rfl⟩
  · have hf := o_if c115 hf
    refine j_ldc C (v := 2000003) (List.mem_cons_of_mem _ wd_5_94) d_MD_lineLeaf_118 ?_
    refine j_goto C d_MD_lineLeaf_120 rfl ?_
    refine j_iadd C d_MD_lineLeaf_124 ?_
    have hf := Option.some.inj hf
    subst hf
    exact j_iret C Rt (Nat.zero_le _) (Nat.zero_le _) d_MD_lineLeaf_125 ⟨rfl, rfl⟩
def MD_lineLeaf_b29 (kb16 : Int32 → Int32 → Int32 → Int32 → ST → Option (Int32)) (kb29 : Int32 → Int32 → Int32 → Int32 → Int32 → ST → Option (Int32)) (x2 : Int32) (x3 : Int32) (x4 : Int32) (x5 : Int32) (x6 : Int32) (σ : ST) : Option (Int32) :=
  if (6 : Int32) ≤ x6 then (kb16 x2 x3 x4 (x5 + 1) σ)
  else (if x4 = x2 then (bd1 (MD_line x5 x6 x3) fun r47 =>
  bd1 (MD_line x6 x5 x3) fun r57 =>
  if r47 < 0 ∨ 72 ≤ r47.toNatClampNeg then none else
  if r57 < 0 ∨ 72 ≤ r57.toNatClampNeg then none else
  if (gA σ 14 r47.toNatClampNeg) = 0 then (MD_lineLeaf_c107 r57 (((gA σ 12 r47.toNatClampNeg) + ((31 : Int32) * (gA σ 13 r47.toNatClampNeg))) + ((17 : Int32) * (gA σ 13 r57.toNatClampNeg))) (0 : Int32) σ)
  else (MD_lineLeaf_c107 r57 (((gA σ 12 r47.toNatClampNeg) + ((31 : Int32) * (gA σ 13 r47.toNatClampNeg))) + ((17 : Int32) * (gA σ 13 r57.toNatClampNeg))) (1000003 : Int32) σ))
  else (kb29 x2 x3 (x4 + 1) x5 (x6 + 1) σ))
set_option maxRecDepth 100000 in
set_option maxHeartbeats 4000000 in
theorem w_MD_lineLeaf_b29 {X : JX} (C : JC X l D (ttf cs) eE b_MD_lineLeaf "TollLedgerModel" 9 (Cond.code y_MD_lineLeaf b_MD_lineLeaf 9 r_MD_lineLeaf :: BIG) 1 22 0 0) {σ : ST} {res : Int32} (Rt : JR X (wfm ad cs) 0 0 (PI res σ) r_MD_lineLeaf "lineLeaf") {kb16 : Int32 → Int32 → Int32 → Int32 → ST → Option (Int32)} {kb29 : Int32 → Int32 → Int32 → Int32 → Int32 → ST → Option (Int32)} (hk16 : ∀ (x2 : Int32) (x3 : Int32) (x4 : Int32) (x5 : Int32), kb16 x2 x3 x4 x5 σ = some res → J (wfm ad cs) X 9 0 0 σ 16 [(0, .ref (ad 18)), (2, .int x2), (3, .int x3), (4, .int x4), (5, .int x5)] []) (hk29 : ∀ (x2 : Int32) (x3 : Int32) (x4 : Int32) (x5 : Int32) (x6 : Int32), kb29 x2 x3 x4 x5 x6 σ = some res → J (wfm ad cs) X 9 0 0 σ 29 [(0, .ref (ad 18)), (2, .int x2), (3, .int x3), (4, .int x4), (5, .int x5), (6, .int x6)] []) (x2 : Int32) (x3 : Int32) (x4 : Int32) (x5 : Int32) (x6 : Int32) (hf : MD_lineLeaf_b29 kb16 kb29 x2 x3 x4 x5 x6 σ = some res) : J (wfm ad cs) X 9 0 0 σ 29 [(0, .ref (ad 18)), (2, .int x2), (3, .int x3), (4, .int x4), (5, .int x5), (6, .int x6)] [] := by
  unfold MD_lineLeaf_b29 at hf
  refine j_iload C 5 rfl d_MD_lineLeaf_29 ?_
  refine j_bipush C (v := 6) (by decide) d_MD_lineLeaf_31 ?_
  refine j_icmp_ge C d_MD_lineLeaf_33 rfl (fun c33 => ?_) (fun c33 => ?_)
  · have hf := o_it c33 hf
    refine j_iinc C 4 rfl (v := (x5 + 1)) (inc_p1 _) (by decide) (loc' := [(5, .int (x5 + 1)), (0, .ref (ad 18)), (2, .int x2), (3, .int x3), (4, .int x4), (6, .int x6)]) rfl d_MD_lineLeaf_135 ?_
    refine j_goto C d_MD_lineLeaf_138 rfl ?_
    refine j_sub [1, 2, 3, 4, 0] rfl ?_
    exact hk16 x2 x3 x4 (x5 + 1) hf
  · have hf := o_if c33 hf
    refine j_iload C 3 rfl d_MD_lineLeaf_36 ?_
    refine j_iload_n C 1 rfl rfl d_MD_lineLeaf_38 ?_
    refine j_icmp_ne C d_MD_lineLeaf_39 rfl (fun c39 => ?_) (fun c39 => ?_)
    · have hf := o_if c39 hf
      refine j_iinc C 3 rfl (v := (x4 + 1)) (inc_p1 _) (by decide) (loc' := [(4, .int (x4 + 1)), (0, .ref (ad 18)), (2, .int x2), (3, .int x3), (5, .int x5), (6, .int x6)]) rfl d_MD_lineLeaf_126 ?_
      refine j_iinc C 5 rfl (v := (x6 + 1)) (inc_p1 _) (by decide) (loc' := [(6, .int (x6 + 1)), (4, .int (x4 + 1)), (0, .ref (ad 18)), (2, .int x2), (3, .int x3), (5, .int x5)]) rfl d_MD_lineLeaf_129 ?_
      refine j_goto C d_MD_lineLeaf_132 rfl ?_
      refine j_sub [2, 3, 4, 1, 5, 0] rfl ?_
      exact hk29 x2 x3 (x4 + 1) x5 (x6 + 1) hf
    · have hf := o_it c39 hf
      refine j_iload C 4 rfl d_MD_lineLeaf_42 ?_
      refine j_iload C 5 rfl d_MD_lineLeaf_44 ?_
      refine j_iload_n C 2 rfl rfl d_MD_lineLeaf_46 ?_
      obtain ⟨r47, h47, hf⟩ := o_b1 hf
      refine j_callS C [.int x5, .int x6, .int x3] [] (m_MD_line _ _ _ _ _ x5 x6 x3 σ h47) (gdS wd_4_186 wd_4_187 wd_1_11 wc_MD_line) hy_MD_line rfl rfl (by decide) (by decide) (by decide) (by decide) (Nat.le_of_ble_eq_true rfl) d_MD_lineLeaf_47 (j_kI (r := r47) (σ1 := σ) ?_)
      refine j_istore C (by decide) (loc' := [(7, .int r47), (0, .ref (ad 18)), (2, .int x2), (3, .int x3), (4, .int x4), (5, .int x5), (6, .int x6)]) rfl d_MD_lineLeaf_50 ?_
      refine j_iload C 6 rfl d_MD_lineLeaf_52 ?_
      refine j_iload C 5 rfl d_MD_lineLeaf_54 ?_
      refine j_iload_n C 3 rfl rfl d_MD_lineLeaf_56 ?_
      obtain ⟨r57, h57, hf⟩ := o_b1 hf
      refine j_callS C [.int x6, .int x5, .int x3] [] (m_MD_line _ _ _ _ _ x6 x5 x3 σ h57) (gdS wd_4_186 wd_4_187 wd_1_11 wc_MD_line) hy_MD_line rfl rfl (by decide) (by decide) (by decide) (by decide) (Nat.le_of_ble_eq_true rfl) d_MD_lineLeaf_57 (j_kI (r := r57) (σ1 := σ) ?_)
      refine j_istore C (by decide) (loc' := [(8, .int r57), (7, .int r47), (0, .ref (ad 18)), (2, .int x2), (3, .int x3), (4, .int x4), (5, .int x5), (6, .int x6)]) rfl d_MD_lineLeaf_60 ?_
      refine j_aload_n C 2 rfl rfl d_MD_lineLeaf_62 ?_
      refine g_MD_balances C (List.mem_cons_of_mem _ wd_4_23) d_MD_lineLeaf_63 ?_
      refine j_iload C 1 rfl d_MD_lineLeaf_66 ?_
      obtain ⟨g68, hf⟩ := o_gn hf
      refine la_m_balances C g68 d_MD_lineLeaf_68 ?_
      refine j_bipush C (v := 31) (by decide) d_MD_lineLeaf_69 ?_
      refine j_aload_n C 2 rfl rfl d_MD_lineLeaf_71 ?_
      refine g_MD_limits C (List.mem_cons_of_mem _ wd_4_24) d_MD_lineLeaf_72 ?_
      refine j_iload C 1 rfl d_MD_lineLeaf_75 ?_
      refine la_m_limits C g68 d_MD_lineLeaf_77 ?_
      refine j_imul C d_MD_lineLeaf_78 ?_
      refine j_iadd C d_MD_lineLeaf_79 ?_
      refine j_bipush C (v := 17) (by decide) d_MD_lineLeaf_80 ?_
      refine j_aload_n C 2 rfl rfl d_MD_lineLeaf_82 ?_
      refine g_MD_limits C (List.mem_cons_of_mem _ wd_4_24) d_MD_lineLeaf_83 ?_
      refine j_iload C 0 rfl d_MD_lineLeaf_86 ?_
      obtain ⟨g88, hf⟩ := o_gn hf
      refine la_m_limits C g88 d_MD_lineLeaf_88 ?_
      refine j_imul C d_MD_lineLeaf_89 ?_
      refine j_iadd C d_MD_lineLeaf_90 ?_
      refine j_aload_n C 2 rfl rfl d_MD_lineLeaf_91 ?_
      refine g_MD_quiets C (List.mem_cons_of_mem _ wd_4_25) d_MD_lineLeaf_92 ?_
      refine j_iload C 1 rfl d_MD_lineLeaf_95 ?_
      refine la_m_quiets C g68 d_MD_lineLeaf_97 ?_
      refine j_if_eq C d_MD_lineLeaf_98 rfl (fun c98 => ?_) (fun c98 => ?_)
      · have hf := o_it c98 hf
        refine j_iconst C (v := 0) (by decide) d_MD_lineLeaf_106 ?_
        refine j_sub [2, 0] rfl ?_
        exact w_MD_lineLeaf_c107 C Rt  r57 (((gA σ 12 r47.toNatClampNeg) + ((31 : Int32) * (gA σ 13 r47.toNatClampNeg))) + ((17 : Int32) * (gA σ 13 r57.toNatClampNeg))) (0 : Int32) hf
      · have hf := o_if c98 hf
        refine j_ldc C (v := 1000003) (List.mem_cons_of_mem _ wd_5_93) d_MD_lineLeaf_101 ?_
        refine j_goto C d_MD_lineLeaf_103 rfl ?_
        refine j_sub [2, 0] rfl ?_
        exact w_MD_lineLeaf_c107 C Rt  r57 (((gA σ 12 r47.toNatClampNeg) + ((31 : Int32) * (gA σ 13 r47.toNatClampNeg))) + ((17 : Int32) * (gA σ 13 r57.toNatClampNeg))) (1000003 : Int32) hf
def MD_lineLeaf_L29 (kb16 : Int32 → Int32 → Int32 → Int32 → ST → Option (Int32)) : Nat → Int32 → Int32 → Int32 → Int32 → Int32 → ST → Option (Int32)
  | 0, _, _, _, _, _, _ => none
  | N + 1, x2, x3, x4, x5, x6, σ => MD_lineLeaf_b29 kb16 (fun x2 x3 x4 x5 x6 σ => MD_lineLeaf_L29 kb16 N x2 x3 x4 x5 x6 σ) x2 x3 x4 x5 x6 σ
theorem w_MD_lineLeaf_L29 {X : JX} (C : JC X l D (ttf cs) eE b_MD_lineLeaf "TollLedgerModel" 9 (Cond.code y_MD_lineLeaf b_MD_lineLeaf 9 r_MD_lineLeaf :: BIG) 1 22 0 0) {σ : ST} {res : Int32} (Rt : JR X (wfm ad cs) 0 0 (PI res σ) r_MD_lineLeaf "lineLeaf") {kb16 : Int32 → Int32 → Int32 → Int32 → ST → Option (Int32)} (hk16 : ∀ (x2 : Int32) (x3 : Int32) (x4 : Int32) (x5 : Int32), kb16 x2 x3 x4 x5 σ = some res → J (wfm ad cs) X 9 0 0 σ 16 [(0, .ref (ad 18)), (2, .int x2), (3, .int x3), (4, .int x4), (5, .int x5)] []) (N : Nat) (x2 : Int32) (x3 : Int32) (x4 : Int32) (x5 : Int32) (x6 : Int32) (hf : MD_lineLeaf_L29 kb16 N x2 x3 x4 x5 x6 σ = some res) : J (wfm ad cs) X 9 0 0 σ 29 [(0, .ref (ad 18)), (2, .int x2), (3, .int x3), (4, .int x4), (5, .int x5), (6, .int x6)] [] := by
  induction N generalizing x2 x3 x4 x5 x6 with
  | zero => exact nomatch hf
  | succ N ih => exact w_MD_lineLeaf_b29 C Rt hk16 (fun x2 x3 x4 x5 x6 h => ih x2 x3 x4 x5 x6 h) x2 x3 x4 x5 x6 hf
def MD_lineLeaf_b16 (kb16 : Int32 → Int32 → Int32 → Int32 → ST → Option (Int32)) (x2 : Int32) (x3 : Int32) (x4 : Int32) (x5 : Int32) (σ : ST) : Option (Int32) :=
  if (6 : Int32) ≤ x5 then (some (0 : Int32))
  else (nmI (x5 + (1 : Int32)) fun x6_27 =>
  MD_lineLeaf_L29 kb16 FU x2 x3 x4 x5 x6_27 σ)
set_option maxRecDepth 100000 in
set_option maxHeartbeats 4000000 in
theorem w_MD_lineLeaf_b16 {X : JX} (C : JC X l D (ttf cs) eE b_MD_lineLeaf "TollLedgerModel" 9 (Cond.code y_MD_lineLeaf b_MD_lineLeaf 9 r_MD_lineLeaf :: BIG) 1 22 0 0) {σ : ST} {res : Int32} (Rt : JR X (wfm ad cs) 0 0 (PI res σ) r_MD_lineLeaf "lineLeaf") {kb16 : Int32 → Int32 → Int32 → Int32 → ST → Option (Int32)} (hk16 : ∀ (x2 : Int32) (x3 : Int32) (x4 : Int32) (x5 : Int32), kb16 x2 x3 x4 x5 σ = some res → J (wfm ad cs) X 9 0 0 σ 16 [(0, .ref (ad 18)), (2, .int x2), (3, .int x3), (4, .int x4), (5, .int x5)] []) (x2 : Int32) (x3 : Int32) (x4 : Int32) (x5 : Int32) (hf : MD_lineLeaf_b16 kb16 x2 x3 x4 x5 σ = some res) : J (wfm ad cs) X 9 0 0 σ 16 [(0, .ref (ad 18)), (2, .int x2), (3, .int x3), (4, .int x4), (5, .int x5)] [] := by
  unfold MD_lineLeaf_b16 at hf
  refine j_iload C 4 rfl d_MD_lineLeaf_16 ?_
  refine j_bipush C (v := 6) (by decide) d_MD_lineLeaf_18 ?_
  refine j_icmp_ge C d_MD_lineLeaf_20 rfl (fun c20 => ?_) (fun c20 => ?_)
  · have hf := o_it c20 hf
    refine j_iconst C (v := 0) (by decide) d_MD_lineLeaf_141 ?_
    have hf := Option.some.inj hf
    subst hf
    exact j_iret C Rt (Nat.zero_le _) (Nat.zero_le _) d_MD_lineLeaf_142 ⟨rfl, rfl⟩
  · have hf := o_if c20 hf
    refine j_iload C 4 rfl d_MD_lineLeaf_23 ?_
    refine j_iconst C (v := 1) (by decide) d_MD_lineLeaf_25 ?_
    refine j_iadd C d_MD_lineLeaf_26 ?_
    obtain ⟨x6_27, ex6_27, hf⟩ := o_nmI hf
    refine j_topI ex6_27 ?_
    refine j_istore C (by decide) (loc' := [(6, .int x6_27), (0, .ref (ad 18)), (2, .int x2), (3, .int x3), (4, .int x4), (5, .int x5)]) rfl d_MD_lineLeaf_27 ?_
    refine j_sub [1, 2, 3, 4, 5, 0] rfl ?_
    exact w_MD_lineLeaf_L29 C Rt hk16 FU x2 x3 x4 x5 x6_27 hf
def MD_lineLeaf_L16 : Nat → Int32 → Int32 → Int32 → Int32 → ST → Option (Int32)
  | 0, _, _, _, _, _ => none
  | N + 1, x2, x3, x4, x5, σ => MD_lineLeaf_b16 (fun x2 x3 x4 x5 σ => MD_lineLeaf_L16 N x2 x3 x4 x5 σ) x2 x3 x4 x5 σ
theorem w_MD_lineLeaf_L16 {X : JX} (C : JC X l D (ttf cs) eE b_MD_lineLeaf "TollLedgerModel" 9 (Cond.code y_MD_lineLeaf b_MD_lineLeaf 9 r_MD_lineLeaf :: BIG) 1 22 0 0) {σ : ST} {res : Int32} (Rt : JR X (wfm ad cs) 0 0 (PI res σ) r_MD_lineLeaf "lineLeaf")  (N : Nat) (x2 : Int32) (x3 : Int32) (x4 : Int32) (x5 : Int32) (hf : MD_lineLeaf_L16 N x2 x3 x4 x5 σ = some res) : J (wfm ad cs) X 9 0 0 σ 16 [(0, .ref (ad 18)), (2, .int x2), (3, .int x3), (4, .int x4), (5, .int x5)] [] := by
  induction N generalizing x2 x3 x4 x5 with
  | zero => exact nomatch hf
  | succ N ih => exact w_MD_lineLeaf_b16 C Rt  (fun x2 x3 x4 x5 h => ih x2 x3 x4 x5 h) x2 x3 x4 x5 hf
def MD_lineLeaf (x1 : Int32) (σ : ST) : Option (Int32) :=
  nmI (x1 / (2 : Int32)) fun x2_3 =>
  nmI ((1 : Int32) + (imod x1 (2 : Int32))) fun x3_9 =>
  MD_lineLeaf_L16 FU x2_3 x3_9 (0 : Int32) (0 : Int32) σ
set_option maxRecDepth 100000 in
set_option maxHeartbeats 4000000 in
theorem m_MD_lineLeaf (l : Launch) (D : va_G) (ad : Nat → Nat) (cs : Nat → ClassId) (eE : Nat × Nat) (x1 : Int32) (σ : ST) {res : Int32} (hf : MD_lineLeaf x1 σ = some res) : MS l y_MD_lineLeaf (Cond.code y_MD_lineLeaf b_MD_lineLeaf 9 r_MD_lineLeaf :: BIG) 1 22 0 0 (wfm ad cs) D (ttf cs) eE [.ref (ad 18), .int x1] σ (PI res σ) := by
  refine MS.of (cc := b_MD_lineLeaf) (maxL := 9) (ret := r_MD_lineLeaf) (by decide) rfl (Nat.le_of_ble_eq_true rfl) (loc := [(0, .ref (ad 18)), (1, .int x1)]) rfl (fun X C Rt => ?_)
  unfold MD_lineLeaf at hf
  refine j_iload_n C 1 rfl rfl d_MD_lineLeaf_0 ?_
  refine j_iconst C (v := 2) (by decide) d_MD_lineLeaf_1 ?_
  refine j_idiv C (by decide) d_MD_lineLeaf_2 ?_
  obtain ⟨x2_3, ex2_3, hf⟩ := o_nmI hf
  refine j_topI ex2_3 ?_
  refine j_istore_n C rfl (by decide) (loc' := [(2, .int x2_3), (0, .ref (ad 18)), (1, .int x1)]) rfl d_MD_lineLeaf_3 ?_
  refine j_iconst C (v := 1) (by decide) d_MD_lineLeaf_4 ?_
  refine j_iload_n C 2 rfl rfl d_MD_lineLeaf_5 ?_
  refine j_iconst C (v := 2) (by decide) d_MD_lineLeaf_6 ?_
  refine j_irem C (by decide) d_MD_lineLeaf_7 ?_
  refine j_iadd C d_MD_lineLeaf_8 ?_
  obtain ⟨x3_9, ex3_9, hf⟩ := o_nmI hf
  refine j_topI ex3_9 ?_
  refine j_istore_n C rfl (by decide) (loc' := [(3, .int x3_9), (2, .int x2_3), (0, .ref (ad 18)), (1, .int x1)]) rfl d_MD_lineLeaf_9 ?_
  refine j_iconst C (v := 0) (by decide) d_MD_lineLeaf_10 ?_
  refine j_istore C (by decide) (loc' := [(4, .int (0 : Int32)), (3, .int x3_9), (2, .int x2_3), (0, .ref (ad 18)), (1, .int x1)]) rfl d_MD_lineLeaf_11 ?_
  refine j_iconst C (v := 0) (by decide) d_MD_lineLeaf_13 ?_
  refine j_istore C (by decide) (loc' := [(5, .int (0 : Int32)), (4, .int (0 : Int32)), (3, .int x3_9), (2, .int x2_3), (0, .ref (ad 18)), (1, .int x1)]) rfl d_MD_lineLeaf_14 ?_
  refine j_sub [4, 3, 2, 1, 0] rfl ?_
  exact w_MD_lineLeaf_L16 C Rt  FU x2_3 x3_9 (0 : Int32) (0 : Int32) hf
theorem d_MD_leaf_0 : decode b_MD_leaf 0 = .ok (.iload_n 1, 1) := by decide +kernel
theorem d_MD_leaf_1 : decode b_MD_leaf 1 = .ok (.bipush 6, 2) := by decide +kernel
theorem d_MD_leaf_3 : decode b_MD_leaf 3 = .ok (.if_icmp .ge 44, 3) := by decide +kernel
theorem d_MD_leaf_6 : decode b_MD_leaf 6 = .ok (.aload_n 0, 1) := by decide +kernel
theorem d_MD_leaf_7 : decode b_MD_leaf 7 = .ok (.getfield 7, 3) := by decide +kernel
theorem d_MD_leaf_10 : decode b_MD_leaf 10 = .ok (.iload_n 1, 1) := by decide +kernel
theorem d_MD_leaf_11 : decode b_MD_leaf 11 = .ok (.baload, 1) := by decide +kernel
theorem d_MD_leaf_12 : decode b_MD_leaf 12 = .ok (.ifCond .eq 33, 3) := by decide +kernel
theorem d_MD_leaf_15 : decode b_MD_leaf 15 = .ok (.aload_n 0, 1) := by decide +kernel
theorem d_MD_leaf_16 : decode b_MD_leaf 16 = .ok (.getfield 13, 3) := by decide +kernel
theorem d_MD_leaf_19 : decode b_MD_leaf 19 = .ok (.iload_n 1, 1) := by decide +kernel
theorem d_MD_leaf_20 : decode b_MD_leaf 20 = .ok (.iaload, 1) := by decide +kernel
theorem d_MD_leaf_21 : decode b_MD_leaf 21 = .ok (.sipush 1024, 3) := by decide +kernel
theorem d_MD_leaf_24 : decode b_MD_leaf 24 = .ok (.imul, 1) := by decide +kernel
theorem d_MD_leaf_25 : decode b_MD_leaf 25 = .ok (.aload_n 0, 1) := by decide +kernel
theorem d_MD_leaf_26 : decode b_MD_leaf 26 = .ok (.getfield 17, 3) := by decide +kernel
theorem d_MD_leaf_29 : decode b_MD_leaf 29 = .ok (.iload_n 1, 1) := by decide +kernel
theorem d_MD_leaf_30 : decode b_MD_leaf 30 = .ok (.iaload, 1) := by decide +kernel
theorem d_MD_leaf_31 : decode b_MD_leaf 31 = .ok (.iadd, 1) := by decide +kernel
theorem d_MD_leaf_32 : decode b_MD_leaf 32 = .ok (.ldc 238, 2) := by decide +kernel
theorem d_MD_leaf_34 : decode b_MD_leaf 34 = .ok (.aload_n 0, 1) := by decide +kernel
theorem d_MD_leaf_35 : decode b_MD_leaf 35 = .ok (.getfield 20, 3) := by decide +kernel
theorem d_MD_leaf_38 : decode b_MD_leaf 38 = .ok (.iload_n 1, 1) := by decide +kernel
theorem d_MD_leaf_39 : decode b_MD_leaf 39 = .ok (.iaload, 1) := by decide +kernel
theorem d_MD_leaf_40 : decode b_MD_leaf 40 = .ok (.imul, 1) := by decide +kernel
theorem d_MD_leaf_41 : decode b_MD_leaf 41 = .ok (.iadd, 1) := by decide +kernel
theorem d_MD_leaf_42 : decode b_MD_leaf 42 = .ok (.goto 4, 3) := by decide +kernel
theorem d_MD_leaf_45 : decode b_MD_leaf 45 = .ok (.iconst 0, 1) := by decide +kernel
theorem d_MD_leaf_46 : decode b_MD_leaf 46 = .ok (.ireturn, 1) := by decide +kernel
theorem d_MD_leaf_47 : decode b_MD_leaf 47 = .ok (.iload_n 1, 1) := by decide +kernel
theorem d_MD_leaf_48 : decode b_MD_leaf 48 = .ok (.bipush 36, 2) := by decide +kernel
theorem d_MD_leaf_50 : decode b_MD_leaf 50 = .ok (.if_icmp .ge 12, 3) := by decide +kernel
theorem d_MD_leaf_53 : decode b_MD_leaf 53 = .ok (.aload_n 0, 1) := by decide +kernel
theorem d_MD_leaf_54 : decode b_MD_leaf 54 = .ok (.iload_n 1, 1) := by decide +kernel
theorem d_MD_leaf_55 : decode b_MD_leaf 55 = .ok (.bipush 6, 2) := by decide +kernel
theorem d_MD_leaf_57 : decode b_MD_leaf 57 = .ok (.isub, 1) := by decide +kernel
theorem d_MD_leaf_58 : decode b_MD_leaf 58 = .ok (.invokevirtual 239, 3) := by decide +kernel
theorem d_MD_leaf_61 : decode b_MD_leaf 61 = .ok (.ireturn, 1) := by decide +kernel
theorem d_MD_leaf_62 : decode b_MD_leaf 62 = .ok (.iload_n 1, 1) := by decide +kernel
theorem d_MD_leaf_63 : decode b_MD_leaf 63 = .ok (.bipush 48, 2) := by decide +kernel
theorem d_MD_leaf_65 : decode b_MD_leaf 65 = .ok (.if_icmp .ge 78, 3) := by decide +kernel
theorem d_MD_leaf_68 : decode b_MD_leaf 68 = .ok (.iload_n 1, 1) := by decide +kernel
theorem d_MD_leaf_69 : decode b_MD_leaf 69 = .ok (.bipush 36, 2) := by decide +kernel
theorem d_MD_leaf_71 : decode b_MD_leaf 71 = .ok (.isub, 1) := by decide +kernel
theorem d_MD_leaf_72 : decode b_MD_leaf 72 = .ok (.istore_n 2, 1) := by decide +kernel
theorem d_MD_leaf_73 : decode b_MD_leaf 73 = .ok (.iload_n 2, 1) := by decide +kernel
theorem d_MD_leaf_74 : decode b_MD_leaf 74 = .ok (.aload_n 0, 1) := by decide +kernel
theorem d_MD_leaf_75 : decode b_MD_leaf 75 = .ok (.getfield 110, 3) := by decide +kernel
theorem d_MD_leaf_78 : decode b_MD_leaf 78 = .ok (.if_icmp .lt 7, 3) := by decide +kernel
theorem d_MD_leaf_81 : decode b_MD_leaf 81 = .ok (.iconst 0, 1) := by decide +kernel
theorem d_MD_leaf_82 : decode b_MD_leaf 82 = .ok (.goto 60, 3) := by decide +kernel
theorem d_MD_leaf_85 : decode b_MD_leaf 85 = .ok (.aload_n 0, 1) := by decide +kernel
theorem d_MD_leaf_86 : decode b_MD_leaf 86 = .ok (.getfield 32, 3) := by decide +kernel
theorem d_MD_leaf_89 : decode b_MD_leaf 89 = .ok (.iload_n 2, 1) := by decide +kernel
theorem d_MD_leaf_90 : decode b_MD_leaf 90 = .ok (.iaload, 1) := by decide +kernel
theorem d_MD_leaf_91 : decode b_MD_leaf 91 = .ok (.bipush 64, 2) := by decide +kernel
theorem d_MD_leaf_93 : decode b_MD_leaf 93 = .ok (.aload_n 0, 1) := by decide +kernel
theorem d_MD_leaf_94 : decode b_MD_leaf 94 = .ok (.getfield 35, 3) := by decide +kernel
theorem d_MD_leaf_97 : decode b_MD_leaf 97 = .ok (.iload_n 2, 1) := by decide +kernel
theorem d_MD_leaf_98 : decode b_MD_leaf 98 = .ok (.iaload, 1) := by decide +kernel
theorem d_MD_leaf_99 : decode b_MD_leaf 99 = .ok (.imul, 1) := by decide +kernel
theorem d_MD_leaf_100 : decode b_MD_leaf 100 = .ok (.iadd, 1) := by decide +kernel
theorem d_MD_leaf_101 : decode b_MD_leaf 101 = .ok (.sipush 512, 3) := by decide +kernel
theorem d_MD_leaf_104 : decode b_MD_leaf 104 = .ok (.aload_n 0, 1) := by decide +kernel
theorem d_MD_leaf_105 : decode b_MD_leaf 105 = .ok (.getfield 38, 3) := by decide +kernel
theorem d_MD_leaf_108 : decode b_MD_leaf 108 = .ok (.iload_n 2, 1) := by decide +kernel
theorem d_MD_leaf_109 : decode b_MD_leaf 109 = .ok (.iaload, 1) := by decide +kernel
theorem d_MD_leaf_110 : decode b_MD_leaf 110 = .ok (.bipush 13, 2) := by decide +kernel
theorem d_MD_leaf_112 : decode b_MD_leaf 112 = .ok (.aload_n 0, 1) := by decide +kernel
theorem d_MD_leaf_113 : decode b_MD_leaf 113 = .ok (.getfield 41, 3) := by decide +kernel
theorem d_MD_leaf_116 : decode b_MD_leaf 116 = .ok (.iload_n 2, 1) := by decide +kernel
theorem d_MD_leaf_117 : decode b_MD_leaf 117 = .ok (.iaload, 1) := by decide +kernel
theorem d_MD_leaf_118 : decode b_MD_leaf 118 = .ok (.imul, 1) := by decide +kernel
theorem d_MD_leaf_119 : decode b_MD_leaf 119 = .ok (.iadd, 1) := by decide +kernel
theorem d_MD_leaf_120 : decode b_MD_leaf 120 = .ok (.imul, 1) := by decide +kernel
theorem d_MD_leaf_121 : decode b_MD_leaf 121 = .ok (.iadd, 1) := by decide +kernel
theorem d_MD_leaf_122 : decode b_MD_leaf 122 = .ok (.ldc 242, 2) := by decide +kernel
theorem d_MD_leaf_124 : decode b_MD_leaf 124 = .ok (.aload_n 0, 1) := by decide +kernel
theorem d_MD_leaf_125 : decode b_MD_leaf 125 = .ok (.getfield 44, 3) := by decide +kernel
theorem d_MD_leaf_128 : decode b_MD_leaf 128 = .ok (.iload_n 2, 1) := by decide +kernel
theorem d_MD_leaf_129 : decode b_MD_leaf 129 = .ok (.iaload, 1) := by decide +kernel
theorem d_MD_leaf_130 : decode b_MD_leaf 130 = .ok (.imul, 1) := by decide +kernel
theorem d_MD_leaf_131 : decode b_MD_leaf 131 = .ok (.iadd, 1) := by decide +kernel
theorem d_MD_leaf_132 : decode b_MD_leaf 132 = .ok (.bipush 7, 2) := by decide +kernel
theorem d_MD_leaf_134 : decode b_MD_leaf 134 = .ok (.aload_n 0, 1) := by decide +kernel
theorem d_MD_leaf_135 : decode b_MD_leaf 135 = .ok (.getfield 47, 3) := by decide +kernel
theorem d_MD_leaf_138 : decode b_MD_leaf 138 = .ok (.iload_n 2, 1) := by decide +kernel
theorem d_MD_leaf_139 : decode b_MD_leaf 139 = .ok (.iaload, 1) := by decide +kernel
theorem d_MD_leaf_140 : decode b_MD_leaf 140 = .ok (.imul, 1) := by decide +kernel
theorem d_MD_leaf_141 : decode b_MD_leaf 141 = .ok (.iadd, 1) := by decide +kernel
theorem d_MD_leaf_142 : decode b_MD_leaf 142 = .ok (.ireturn, 1) := by decide +kernel
theorem d_MD_leaf_143 : decode b_MD_leaf 143 = .ok (.iload_n 1, 1) := by decide +kernel
theorem d_MD_leaf_144 : decode b_MD_leaf 144 = .ok (.bipush 48, 2) := by decide +kernel
theorem d_MD_leaf_146 : decode b_MD_leaf 146 = .ok (.isub, 1) := by decide +kernel
theorem d_MD_leaf_147 : decode b_MD_leaf 147 = .ok (.istore_n 2, 1) := by decide +kernel
theorem d_MD_leaf_148 : decode b_MD_leaf 148 = .ok (.iload_n 2, 1) := by decide +kernel
theorem d_MD_leaf_149 : decode b_MD_leaf 149 = .ok (.aload_n 0, 1) := by decide +kernel
theorem d_MD_leaf_150 : decode b_MD_leaf 150 = .ok (.getfield 113, 3) := by decide +kernel
theorem d_MD_leaf_153 : decode b_MD_leaf 153 = .ok (.if_icmp .lt 7, 3) := by decide +kernel
theorem d_MD_leaf_156 : decode b_MD_leaf 156 = .ok (.iconst 0, 1) := by decide +kernel
theorem d_MD_leaf_157 : decode b_MD_leaf 157 = .ok (.goto 60, 3) := by decide +kernel
theorem d_MD_leaf_160 : decode b_MD_leaf 160 = .ok (.aload_n 0, 1) := by decide +kernel
theorem d_MD_leaf_161 : decode b_MD_leaf 161 = .ok (.getfield 50, 3) := by decide +kernel
theorem d_MD_leaf_164 : decode b_MD_leaf 164 = .ok (.iload_n 2, 1) := by decide +kernel
theorem d_MD_leaf_165 : decode b_MD_leaf 165 = .ok (.iaload, 1) := by decide +kernel
theorem d_MD_leaf_166 : decode b_MD_leaf 166 = .ok (.bipush 64, 2) := by decide +kernel
theorem d_MD_leaf_168 : decode b_MD_leaf 168 = .ok (.aload_n 0, 1) := by decide +kernel
theorem d_MD_leaf_169 : decode b_MD_leaf 169 = .ok (.getfield 53, 3) := by decide +kernel
theorem d_MD_leaf_172 : decode b_MD_leaf 172 = .ok (.iload_n 2, 1) := by decide +kernel
theorem d_MD_leaf_173 : decode b_MD_leaf 173 = .ok (.iaload, 1) := by decide +kernel
theorem d_MD_leaf_174 : decode b_MD_leaf 174 = .ok (.bipush 6, 2) := by decide +kernel
theorem d_MD_leaf_176 : decode b_MD_leaf 176 = .ok (.aload_n 0, 1) := by decide +kernel
theorem d_MD_leaf_177 : decode b_MD_leaf 177 = .ok (.getfield 56, 3) := by decide +kernel
theorem d_MD_leaf_180 : decode b_MD_leaf 180 = .ok (.iload_n 2, 1) := by decide +kernel
theorem d_MD_leaf_181 : decode b_MD_leaf 181 = .ok (.iaload, 1) := by decide +kernel
theorem d_MD_leaf_182 : decode b_MD_leaf 182 = .ok (.imul, 1) := by decide +kernel
theorem d_MD_leaf_183 : decode b_MD_leaf 183 = .ok (.iadd, 1) := by decide +kernel
theorem d_MD_leaf_184 : decode b_MD_leaf 184 = .ok (.imul, 1) := by decide +kernel
theorem d_MD_leaf_185 : decode b_MD_leaf 185 = .ok (.iadd, 1) := by decide +kernel
theorem d_MD_leaf_186 : decode b_MD_leaf 186 = .ok (.sipush 3001, 3) := by decide +kernel
theorem d_MD_leaf_189 : decode b_MD_leaf 189 = .ok (.aload_n 0, 1) := by decide +kernel
theorem d_MD_leaf_190 : decode b_MD_leaf 190 = .ok (.getfield 59, 3) := by decide +kernel
theorem d_MD_leaf_193 : decode b_MD_leaf 193 = .ok (.iload_n 2, 1) := by decide +kernel
theorem d_MD_leaf_194 : decode b_MD_leaf 194 = .ok (.iaload, 1) := by decide +kernel
theorem d_MD_leaf_195 : decode b_MD_leaf 195 = .ok (.imul, 1) := by decide +kernel
theorem d_MD_leaf_196 : decode b_MD_leaf 196 = .ok (.iadd, 1) := by decide +kernel
theorem d_MD_leaf_197 : decode b_MD_leaf 197 = .ok (.bipush 11, 2) := by decide +kernel
theorem d_MD_leaf_199 : decode b_MD_leaf 199 = .ok (.aload_n 0, 1) := by decide +kernel
theorem d_MD_leaf_200 : decode b_MD_leaf 200 = .ok (.getfield 62, 3) := by decide +kernel
theorem d_MD_leaf_203 : decode b_MD_leaf 203 = .ok (.iload_n 2, 1) := by decide +kernel
theorem d_MD_leaf_204 : decode b_MD_leaf 204 = .ok (.iaload, 1) := by decide +kernel
theorem d_MD_leaf_205 : decode b_MD_leaf 205 = .ok (.imul, 1) := by decide +kernel
theorem d_MD_leaf_206 : decode b_MD_leaf 206 = .ok (.iadd, 1) := by decide +kernel
theorem d_MD_leaf_207 : decode b_MD_leaf 207 = .ok (.bipush 13, 2) := by decide +kernel
theorem d_MD_leaf_209 : decode b_MD_leaf 209 = .ok (.aload_n 0, 1) := by decide +kernel
theorem d_MD_leaf_210 : decode b_MD_leaf 210 = .ok (.getfield 65, 3) := by decide +kernel
theorem d_MD_leaf_213 : decode b_MD_leaf 213 = .ok (.iload_n 2, 1) := by decide +kernel
theorem d_MD_leaf_214 : decode b_MD_leaf 214 = .ok (.iaload, 1) := by decide +kernel
theorem d_MD_leaf_215 : decode b_MD_leaf 215 = .ok (.imul, 1) := by decide +kernel
theorem d_MD_leaf_216 : decode b_MD_leaf 216 = .ok (.iadd, 1) := by decide +kernel
theorem d_MD_leaf_217 : decode b_MD_leaf 217 = .ok (.ireturn, 1) := by decide +kernel
def MD_leaf (x1 : Int32) (σ : ST) : Option (Int32) :=
  if (6 : Int32) ≤ x1 then (if (36 : Int32) ≤ x1 then (if (48 : Int32) ≤ x1 then (nmI (x1 - (48 : Int32)) fun x2_147 =>
  if x2_147 < (gI σ 23) then (if x2_147 < 0 ∨ 6 ≤ x2_147.toNatClampNeg then none else
  some (((((gA σ 21 x2_147.toNatClampNeg) + ((64 : Int32) * ((gA σ 22 x2_147.toNatClampNeg) + ((6 : Int32) * (gA σ 23 x2_147.toNatClampNeg))))) + ((3001 : Int32) * (gA σ 24 x2_147.toNatClampNeg))) + ((11 : Int32) * (gA σ 25 x2_147.toNatClampNeg))) + ((13 : Int32) * (gA σ 26 x2_147.toNatClampNeg))))
  else (some (0 : Int32)))
  else (nmI (x1 - (36 : Int32)) fun x2_72 =>
  if x2_72 < (gI σ 21) then (if x2_72 < 0 ∨ 12 ≤ x2_72.toNatClampNeg then none else
  some (((((gA σ 15 x2_72.toNatClampNeg) + ((64 : Int32) * (gA σ 16 x2_72.toNatClampNeg))) + ((512 : Int32) * ((gA σ 17 x2_72.toNatClampNeg) + ((13 : Int32) * (gA σ 18 x2_72.toNatClampNeg))))) + ((100003 : Int32) * (gA σ 19 x2_72.toNatClampNeg))) + ((7 : Int32) * (gA σ 20 x2_72.toNatClampNeg))))
  else (some (0 : Int32))))
  else (bd1 (MD_lineLeaf (x1 - (6 : Int32)) σ) fun r58 =>
  some r58))
  else (if x1 < 0 ∨ 6 ≤ x1.toNatClampNeg then none else
  if (gA σ 8 x1.toNatClampNeg) = 0 then (some (0 : Int32))
  else (some ((((gA σ 9 x1.toNatClampNeg) * (1024 : Int32)) + (gA σ 10 x1.toNatClampNeg)) + ((300007 : Int32) * (gA σ 11 x1.toNatClampNeg)))))
set_option maxRecDepth 100000 in
set_option maxHeartbeats 4000000 in
theorem m_MD_leaf (l : Launch) (D : va_G) (ad : Nat → Nat) (cs : Nat → ClassId) (eE : Nat × Nat) (x1 : Int32) (σ : ST) {res : Int32} (hf : MD_leaf x1 σ = some res) : MS l y_MD_leaf (Cond.code y_MD_leaf b_MD_leaf 3 r_MD_leaf :: BIG) 2 50 0 0 (wfm ad cs) D (ttf cs) eE [.ref (ad 18), .int x1] σ (PI res σ) := by
  refine MS.of (cc := b_MD_leaf) (maxL := 3) (ret := r_MD_leaf) (by decide) rfl (Nat.le_of_ble_eq_true rfl) (loc := [(0, .ref (ad 18)), (1, .int x1)]) rfl (fun X C Rt => ?_)
  unfold MD_leaf at hf
  refine j_iload_n C 1 rfl rfl d_MD_leaf_0 ?_
  refine j_bipush C (v := 6) (by decide) d_MD_leaf_1 ?_
  refine j_icmp_ge C d_MD_leaf_3 rfl (fun c3 => ?_) (fun c3 => ?_)
  · have hf := o_it c3 hf
    refine j_iload_n C 1 rfl rfl d_MD_leaf_47 ?_
    refine j_bipush C (v := 36) (by decide) d_MD_leaf_48 ?_
    refine j_icmp_ge C d_MD_leaf_50 rfl (fun c50 => ?_) (fun c50 => ?_)
    · have hf := o_it c50 hf
      refine j_iload_n C 1 rfl rfl d_MD_leaf_62 ?_
      refine j_bipush C (v := 48) (by decide) d_MD_leaf_63 ?_
      refine j_icmp_ge C d_MD_leaf_65 rfl (fun c65 => ?_) (fun c65 => ?_)
      · have hf := o_it c65 hf
        refine j_iload_n C 1 rfl rfl d_MD_leaf_143 ?_
        refine j_bipush C (v := 48) (by decide) d_MD_leaf_144 ?_
        refine j_isub C d_MD_leaf_146 ?_
        obtain ⟨x2_147, ex2_147, hf⟩ := o_nmI hf
        refine j_topI ex2_147 ?_
        refine j_istore_n C rfl (by decide) (loc' := [(2, .int x2_147), (0, .ref (ad 18)), (1, .int x1)]) rfl d_MD_leaf_147 ?_
        refine j_iload_n C 0 rfl rfl d_MD_leaf_148 ?_
        refine j_aload_n C 1 rfl rfl d_MD_leaf_149 ?_
        refine g_MD_deposits C (List.mem_cons_of_mem _ wd_4_34) d_MD_leaf_150 ?_
        refine j_icmp_lt C d_MD_leaf_153 rfl (fun c153 => ?_) (fun c153 => ?_)
        · have hf := o_it c153 hf
          refine j_aload_n C 1 rfl rfl d_MD_leaf_160 ?_
          refine g_MD_depositId C (List.mem_cons_of_mem _ wd_4_36) d_MD_leaf_161 ?_
          refine j_iload_n C 0 rfl rfl d_MD_leaf_164 ?_
          obtain ⟨g165, hf⟩ := o_gn hf
          refine la_m_depositId C g165 d_MD_leaf_165 ?_
          refine j_bipush C (v := 64) (by decide) d_MD_leaf_166 ?_
          refine j_aload_n C 1 rfl rfl d_MD_leaf_168 ?_
          refine g_MD_fromOf C (List.mem_cons_of_mem _ wd_4_37) d_MD_leaf_169 ?_
          refine j_iload_n C 0 rfl rfl d_MD_leaf_172 ?_
          refine la_m_fromOf C g165 d_MD_leaf_173 ?_
          refine j_bipush C (v := 6) (by decide) d_MD_leaf_174 ?_
          refine j_aload_n C 1 rfl rfl d_MD_leaf_176 ?_
          refine g_MD_toOf C (List.mem_cons_of_mem _ wd_4_38) d_MD_leaf_177 ?_
          refine j_iload_n C 0 rfl rfl d_MD_leaf_180 ?_
          refine la_m_toOf C g165 d_MD_leaf_181 ?_
          refine j_imul C d_MD_leaf_182 ?_
          refine j_iadd C d_MD_leaf_183 ?_
          refine j_imul C d_MD_leaf_184 ?_
          refine j_iadd C d_MD_leaf_185 ?_
          refine j_sipush C (v := 3001) (by decide) d_MD_leaf_186 ?_
          refine j_aload_n C 1 rfl rfl d_MD_leaf_189 ?_
          refine g_MD_heldOf C (List.mem_cons_of_mem _ wd_4_39) d_MD_leaf_190 ?_
          refine j_iload_n C 0 rfl rfl d_MD_leaf_193 ?_
          refine la_m_heldOf C g165 d_MD_leaf_194 ?_
          refine j_imul C d_MD_leaf_195 ?_
          refine j_iadd C d_MD_leaf_196 ?_
          refine j_bipush C (v := 11) (by decide) d_MD_leaf_197 ?_
          refine j_aload_n C 1 rfl rfl d_MD_leaf_199 ?_
          refine g_MD_afterOf C (List.mem_cons_of_mem _ wd_4_40) d_MD_leaf_200 ?_
          refine j_iload_n C 0 rfl rfl d_MD_leaf_203 ?_
          refine la_m_afterOf C g165 d_MD_leaf_204 ?_
          refine j_imul C d_MD_leaf_205 ?_
          refine j_iadd C d_MD_leaf_206 ?_
          refine j_bipush C (v := 13) (by decide) d_MD_leaf_207 ?_
          refine j_aload_n C 1 rfl rfl d_MD_leaf_209 ?_
          refine g_MD_untilOf C (List.mem_cons_of_mem _ wd_4_41) d_MD_leaf_210 ?_
          refine j_iload_n C 0 rfl rfl d_MD_leaf_213 ?_
          refine la_m_untilOf C g165 d_MD_leaf_214 ?_
          refine j_imul C d_MD_leaf_215 ?_
          refine j_iadd C d_MD_leaf_216 ?_
          have hf := Option.some.inj hf
          subst hf
          exact j_iret C Rt (Nat.zero_le _) (Nat.zero_le _) d_MD_leaf_217 ⟨rfl, rfl⟩
        · have hf := o_if c153 hf
          refine j_iconst C (v := 0) (by decide) d_MD_leaf_156 ?_
          refine j_goto C d_MD_leaf_157 rfl ?_
          have hf := Option.some.inj hf
          subst hf
          exact j_iret C Rt (Nat.zero_le _) (Nat.zero_le _) d_MD_leaf_217 ⟨rfl, rfl⟩
      · have hf := o_if c65 hf
        refine j_iload_n C 1 rfl rfl d_MD_leaf_68 ?_
        refine j_bipush C (v := 36) (by decide) d_MD_leaf_69 ?_
        refine j_isub C d_MD_leaf_71 ?_
        obtain ⟨x2_72, ex2_72, hf⟩ := o_nmI hf
        refine j_topI ex2_72 ?_
        refine j_istore_n C rfl (by decide) (loc' := [(2, .int x2_72), (0, .ref (ad 18)), (1, .int x1)]) rfl d_MD_leaf_72 ?_
        refine j_iload_n C 0 rfl rfl d_MD_leaf_73 ?_
        refine j_aload_n C 1 rfl rfl d_MD_leaf_74 ?_
        refine g_MD_offers C (List.mem_cons_of_mem _ wd_4_26) d_MD_leaf_75 ?_
        refine j_icmp_lt C d_MD_leaf_78 rfl (fun c78 => ?_) (fun c78 => ?_)
        · have hf := o_it c78 hf
          refine j_aload_n C 1 rfl rfl d_MD_leaf_85 ?_
          refine g_MD_offerId C (List.mem_cons_of_mem _ wd_4_28) d_MD_leaf_86 ?_
          refine j_iload_n C 0 rfl rfl d_MD_leaf_89 ?_
          obtain ⟨g90, hf⟩ := o_gn hf
          refine la_m_offerId C g90 d_MD_leaf_90 ?_
          refine j_bipush C (v := 64) (by decide) d_MD_leaf_91 ?_
          refine j_aload_n C 1 rfl rfl d_MD_leaf_93 ?_
          refine g_MD_ownerOf C (List.mem_cons_of_mem _ wd_4_29) d_MD_leaf_94 ?_
          refine j_iload_n C 0 rfl rfl d_MD_leaf_97 ?_
          refine la_m_ownerOf C g90 d_MD_leaf_98 ?_
          refine j_imul C d_MD_leaf_99 ?_
          refine j_iadd C d_MD_leaf_100 ?_
          refine j_sipush C (v := 512) (by decide) d_MD_leaf_101 ?_
          refine j_aload_n C 1 rfl rfl d_MD_leaf_104 ?_
          refine g_MD_wantsOf C (List.mem_cons_of_mem _ wd_4_30) d_MD_leaf_105 ?_
          refine j_iload_n C 0 rfl rfl d_MD_leaf_108 ?_
          refine la_m_wantsOf C g90 d_MD_leaf_109 ?_
          refine j_bipush C (v := 13) (by decide) d_MD_leaf_110 ?_
          refine j_aload_n C 1 rfl rfl d_MD_leaf_112 ?_
          refine g_MD_givesOf C (List.mem_cons_of_mem _ wd_4_31) d_MD_leaf_113 ?_
          refine j_iload_n C 0 rfl rfl d_MD_leaf_116 ?_
          refine la_m_givesOf C g90 d_MD_leaf_117 ?_
          refine j_imul C d_MD_leaf_118 ?_
          refine j_iadd C d_MD_leaf_119 ?_
          refine j_imul C d_MD_leaf_120 ?_
          refine j_iadd C d_MD_leaf_121 ?_
          refine j_ldc C (v := 100003) (List.mem_cons_of_mem _ wd_5_95) d_MD_leaf_122 ?_
          refine j_aload_n C 1 rfl rfl d_MD_leaf_124 ?_
          refine g_MD_wOf C (List.mem_cons_of_mem _ wd_4_32) d_MD_leaf_125 ?_
          refine j_iload_n C 0 rfl rfl d_MD_leaf_128 ?_
          refine la_m_wOf C g90 d_MD_leaf_129 ?_
          refine j_imul C d_MD_leaf_130 ?_
          refine j_iadd C d_MD_leaf_131 ?_
          refine j_bipush C (v := 7) (by decide) d_MD_leaf_132 ?_
          refine j_aload_n C 1 rfl rfl d_MD_leaf_134 ?_
          refine g_MD_gOf C (List.mem_cons_of_mem _ wd_4_33) d_MD_leaf_135 ?_
          refine j_iload_n C 0 rfl rfl d_MD_leaf_138 ?_
          refine la_m_gOf C g90 d_MD_leaf_139 ?_
          refine j_imul C d_MD_leaf_140 ?_
          refine j_iadd C d_MD_leaf_141 ?_
          have hf := Option.some.inj hf
          subst hf
          exact j_iret C Rt (Nat.zero_le _) (Nat.zero_le _) d_MD_leaf_142 ⟨rfl, rfl⟩
        · have hf := o_if c78 hf
          refine j_iconst C (v := 0) (by decide) d_MD_leaf_81 ?_
          refine j_goto C d_MD_leaf_82 rfl ?_
          have hf := Option.some.inj hf
          subst hf
          exact j_iret C Rt (Nat.zero_le _) (Nat.zero_le _) d_MD_leaf_142 ⟨rfl, rfl⟩
    · have hf := o_if c50 hf
      refine j_aload_n C 0 rfl rfl d_MD_leaf_53 ?_
      refine j_iload_n C 1 rfl rfl d_MD_leaf_54 ?_
      refine j_bipush C (v := 6) (by decide) d_MD_leaf_55 ?_
      refine j_isub C d_MD_leaf_57 ?_
      obtain ⟨r58, h58, hf⟩ := o_b1 hf
      refine j_callV (ci := 10) (Cn := "TollLedgerModel") (T := T_MD) (N := 39) C [.int (x1 - (6 : Int32))] [] (m_MD_lineLeaf _ _ _ _ _ (x1 - (6 : Int32)) σ h58) (gdV wd_5_89 wd_5_91 wp_38 wd_1_11 wc_MD_lineLeaf) hy_MD_lineLeaf rfl ⟨18, rfl⟩ rfl rfl (by decide) (by decide) (by decide) (by decide) (Nat.le_of_ble_eq_true rfl) d_MD_leaf_58 (j_kI (r := r58) (σ1 := σ) ?_)
      have hf := Option.some.inj hf
      subst hf
      exact j_iret C Rt (Nat.zero_le _) (Nat.zero_le _) d_MD_leaf_61 ⟨rfl, rfl⟩
  · have hf := o_if c3 hf
    refine j_aload_n C 0 rfl rfl d_MD_leaf_6 ?_
    refine g_MD_exists C (List.mem_cons_of_mem _ wd_4_19) d_MD_leaf_7 ?_
    refine j_iload_n C 1 rfl rfl d_MD_leaf_10 ?_
    obtain ⟨g11, hf⟩ := o_gn hf
    refine la_m_exists C g11 d_MD_leaf_11 ?_
    refine j_if_eq C d_MD_leaf_12 rfl (fun c12 => ?_) (fun c12 => ?_)
    · have hf := o_it c12 hf
      refine j_iconst C (v := 0) (by decide) d_MD_leaf_45 ?_
      have hf := Option.some.inj hf
      subst hf
      exact j_iret C Rt (Nat.zero_le _) (Nat.zero_le _) d_MD_leaf_46 ⟨rfl, rfl⟩
    · have hf := o_if c12 hf
      refine j_aload_n C 0 rfl rfl d_MD_leaf_15 ?_
      refine g_MD_coins C (List.mem_cons_of_mem _ wd_4_20) d_MD_leaf_16 ?_
      refine j_iload_n C 1 rfl rfl d_MD_leaf_19 ?_
      refine la_m_coins C g11 d_MD_leaf_20 ?_
      refine j_sipush C (v := 1024) (by decide) d_MD_leaf_21 ?_
      refine j_imul C d_MD_leaf_24 ?_
      refine j_aload_n C 0 rfl rfl d_MD_leaf_25 ?_
      refine g_MD_numbers C (List.mem_cons_of_mem _ wd_4_21) d_MD_leaf_26 ?_
      refine j_iload_n C 1 rfl rfl d_MD_leaf_29 ?_
      refine la_m_numbers C g11 d_MD_leaf_30 ?_
      refine j_iadd C d_MD_leaf_31 ?_
      refine j_ldc C (v := 300007) (List.mem_cons_of_mem _ wd_5_88) d_MD_leaf_32 ?_
      refine j_aload_n C 0 rfl rfl d_MD_leaf_34 ?_
      refine g_MD_rates C (List.mem_cons_of_mem _ wd_4_22) d_MD_leaf_35 ?_
      refine j_iload_n C 1 rfl rfl d_MD_leaf_38 ?_
      refine la_m_rates C g11 d_MD_leaf_39 ?_
      refine j_imul C d_MD_leaf_40 ?_
      refine j_iadd C d_MD_leaf_41 ?_
      refine j_goto C d_MD_leaf_42 rfl ?_
      have hf := Option.some.inj hf
      subst hf
      exact j_iret C Rt (Nat.zero_le _) (Nat.zero_le _) d_MD_leaf_46 ⟨rfl, rfl⟩
theorem d_MD_limit_0 : decode b_MD_limit 0 = .ok (.iload_n 1, 1) := by decide +kernel
theorem d_MD_limit_1 : decode b_MD_limit 1 = .ok (.iload_n 2, 1) := by decide +kernel
theorem d_MD_limit_2 : decode b_MD_limit 2 = .ok (.iload_n 3, 1) := by decide +kernel
theorem d_MD_limit_3 : decode b_MD_limit 3 = .ok (.invokestatic 233, 3) := by decide +kernel
theorem d_MD_limit_6 : decode b_MD_limit 6 = .ok (.ifCond .ne 5, 3) := by decide +kernel
theorem d_MD_limit_9 : decode b_MD_limit 9 = .ok (.iconst 0, 1) := by decide +kernel
theorem d_MD_limit_10 : decode b_MD_limit 10 = .ok (.ireturn, 1) := by decide +kernel
theorem d_MD_limit_11 : decode b_MD_limit 11 = .ok (.iload_n 1, 1) := by decide +kernel
theorem d_MD_limit_12 : decode b_MD_limit 12 = .ok (.iload_n 2, 1) := by decide +kernel
theorem d_MD_limit_13 : decode b_MD_limit 13 = .ok (.iload_n 3, 1) := by decide +kernel
theorem d_MD_limit_14 : decode b_MD_limit 14 = .ok (.invokestatic 102, 3) := by decide +kernel
theorem d_MD_limit_17 : decode b_MD_limit 17 = .ok (.istore 4, 2) := by decide +kernel
theorem d_MD_limit_19 : decode b_MD_limit 19 = .ok (.aload_n 0, 1) := by decide +kernel
theorem d_MD_limit_20 : decode b_MD_limit 20 = .ok (.getfield 26, 3) := by decide +kernel
theorem d_MD_limit_23 : decode b_MD_limit 23 = .ok (.iload 4, 2) := by decide +kernel
theorem d_MD_limit_25 : decode b_MD_limit 25 = .ok (.iaload, 1) := by decide +kernel
theorem d_MD_limit_26 : decode b_MD_limit 26 = .ok (.aload_n 0, 1) := by decide +kernel
theorem d_MD_limit_27 : decode b_MD_limit 27 = .ok (.getfield 29, 3) := by decide +kernel
theorem d_MD_limit_30 : decode b_MD_limit 30 = .ok (.iload 4, 2) := by decide +kernel
theorem d_MD_limit_32 : decode b_MD_limit 32 = .ok (.baload, 1) := by decide +kernel
theorem d_MD_limit_33 : decode b_MD_limit 33 = .ok (.ifCond .eq 8, 3) := by decide +kernel
theorem d_MD_limit_36 : decode b_MD_limit 36 = .ok (.ldc 72, 2) := by decide +kernel
theorem d_MD_limit_38 : decode b_MD_limit 38 = .ok (.goto 4, 3) := by decide +kernel
theorem d_MD_limit_41 : decode b_MD_limit 41 = .ok (.iconst 0, 1) := by decide +kernel
theorem d_MD_limit_42 : decode b_MD_limit 42 = .ok (.iadd, 1) := by decide +kernel
theorem d_MD_limit_43 : decode b_MD_limit 43 = .ok (.ireturn, 1) := by decide +kernel
def MD_limit (x1 : Int32) (x2 : Int32) (x3 : Int32) (σ : ST) : Option (Int32) :=
  bd1 (MD_isLine x1 x2 x3) fun r3 =>
  if r3 = 0 then (some (0 : Int32))
  else (bd1 (MD_line x1 x2 x3) fun r14 =>
  if r14 < 0 ∨ 72 ≤ r14.toNatClampNeg then none else
  if (gA σ 14 r14.toNatClampNeg) = 0 then (some ((gA σ 13 r14.toNatClampNeg) + (0 : Int32)))
  else (some ((gA σ 13 r14.toNatClampNeg) + (1000000 : Int32))))
set_option maxRecDepth 100000 in
set_option maxHeartbeats 4000000 in
theorem m_MD_limit (l : Launch) (D : va_G) (ad : Nat → Nat) (cs : Nat → ClassId) (eE : Nat × Nat) (x1 : Int32) (x2 : Int32) (x3 : Int32) (σ : ST) {res : Int32} (hf : MD_limit x1 x2 x3 σ = some res) : MS l y_MD_limit (Cond.code y_MD_limit b_MD_limit 5 r_MD_limit :: BIG) 2 42 0 0 (wfm ad cs) D (ttf cs) eE [.ref (ad 18), .int x1, .int x2, .int x3] σ (PI res σ) := by
  refine MS.of (cc := b_MD_limit) (maxL := 5) (ret := r_MD_limit) (by decide) rfl (Nat.le_of_ble_eq_true rfl) (loc := [(0, .ref (ad 18)), (1, .int x1), (2, .int x2), (3, .int x3)]) rfl (fun X C Rt => ?_)
  unfold MD_limit at hf
  refine j_iload_n C 1 rfl rfl d_MD_limit_0 ?_
  refine j_iload_n C 2 rfl rfl d_MD_limit_1 ?_
  refine j_iload_n C 3 rfl rfl d_MD_limit_2 ?_
  obtain ⟨r3, h3, hf⟩ := o_b1 hf
  refine j_callS C [.int x1, .int x2, .int x3] [] (m_MD_isLine _ _ _ _ _ x1 x2 x3 σ h3) (gdS wd_5_53 wd_5_54 wd_1_11 wc_MD_isLine) hy_MD_isLine rfl rfl (by decide) (by decide) (by decide) (by decide) (Nat.le_of_ble_eq_true rfl) d_MD_limit_3 (j_kI (r := r3) (σ1 := σ) ?_)
  refine j_if_ne C d_MD_limit_6 rfl (fun c6 => ?_) (fun c6 => ?_)
  · have hf := o_if c6 hf
    refine j_iload_n C 1 rfl rfl d_MD_limit_11 ?_
    refine j_iload_n C 2 rfl rfl d_MD_limit_12 ?_
    refine j_iload_n C 3 rfl rfl d_MD_limit_13 ?_
    obtain ⟨r14, h14, hf⟩ := o_b1 hf
    refine j_callS C [.int x1, .int x2, .int x3] [] (m_MD_line _ _ _ _ _ x1 x2 x3 σ h14) (gdS wd_4_186 wd_4_187 wd_1_11 wc_MD_line) hy_MD_line rfl rfl (by decide) (by decide) (by decide) (by decide) (Nat.le_of_ble_eq_true rfl) d_MD_limit_14 (j_kI (r := r14) (σ1 := σ) ?_)
    refine j_istore C (by decide) (loc' := [(4, .int r14), (0, .ref (ad 18)), (1, .int x1), (2, .int x2), (3, .int x3)]) rfl d_MD_limit_17 ?_
    refine j_aload_n C 1 rfl rfl d_MD_limit_19 ?_
    refine g_MD_limits C (List.mem_cons_of_mem _ wd_4_24) d_MD_limit_20 ?_
    refine j_iload C 0 rfl d_MD_limit_23 ?_
    obtain ⟨g25, hf⟩ := o_gn hf
    refine la_m_limits C g25 d_MD_limit_25 ?_
    refine j_aload_n C 1 rfl rfl d_MD_limit_26 ?_
    refine g_MD_quiets C (List.mem_cons_of_mem _ wd_4_25) d_MD_limit_27 ?_
    refine j_iload C 0 rfl d_MD_limit_30 ?_
    refine la_m_quiets C g25 d_MD_limit_32 ?_
    refine j_if_eq C d_MD_limit_33 rfl (fun c33 => ?_) (fun c33 => ?_)
    · have hf := o_it c33 hf
      refine j_iconst C (v := 0) (by decide) d_MD_limit_41 ?_
      refine j_iadd C d_MD_limit_42 ?_
      have hf := Option.some.inj hf
      subst hf
      exact j_iret C Rt (Nat.zero_le _) (Nat.zero_le _) d_MD_limit_43 ⟨rfl, rfl⟩
    · have hf := o_if c33 hf
      refine j_ldc C (v := 1000000) (List.mem_cons_of_mem _ wd_4_18) d_MD_limit_36 ?_
      refine j_goto C d_MD_limit_38 rfl ?_
      refine j_iadd C d_MD_limit_42 ?_
      have hf := Option.some.inj hf
      subst hf
      exact j_iret C Rt (Nat.zero_le _) (Nat.zero_le _) d_MD_limit_43 ⟨rfl, rfl⟩
  · have hf := o_it c6 hf
    refine j_iconst C (v := 0) (by decide) d_MD_limit_9 ?_
    have hf := Option.some.inj hf
    subst hf
    exact j_iret C Rt (Nat.zero_le _) (Nat.zero_le _) d_MD_limit_10 ⟨rfl, rfl⟩
theorem d_MD_note_0 : decode b_MD_note 0 = .ok (.iload_n 2, 1) := by decide +kernel
theorem d_MD_note_1 : decode b_MD_note 1 = .ok (.ifCond .ne 4, 3) := by decide +kernel
theorem d_MD_note_4 : decode b_MD_note 4 = .ok (.return_, 1) := by decide +kernel
theorem d_MD_note_5 : decode b_MD_note 5 = .ok (.aload_n 0, 1) := by decide +kernel
theorem d_MD_note_6 : decode b_MD_note 6 = .ok (.getfield 35, 3) := by decide +kernel
theorem d_MD_note_9 : decode b_MD_note 9 = .ok (.iload_n 1, 1) := by decide +kernel
theorem d_MD_note_10 : decode b_MD_note 10 = .ok (.iaload, 1) := by decide +kernel
theorem d_MD_note_11 : decode b_MD_note 11 = .ok (.istore 5, 2) := by decide +kernel
theorem d_MD_note_13 : decode b_MD_note 13 = .ok (.aload_n 0, 1) := by decide +kernel
theorem d_MD_note_14 : decode b_MD_note 14 = .ok (.getfield 76, 3) := by decide +kernel
theorem d_MD_note_17 : decode b_MD_note 17 = .ok (.iload_n 1, 1) := by decide +kernel
theorem d_MD_note_18 : decode b_MD_note 18 = .ok (.iload_n 2, 1) := by decide +kernel
theorem d_MD_note_19 : decode b_MD_note 19 = .ok (.iastore, 1) := by decide +kernel
theorem d_MD_note_20 : decode b_MD_note 20 = .ok (.aload_n 0, 1) := by decide +kernel
theorem d_MD_note_21 : decode b_MD_note 21 = .ok (.getfield 79, 3) := by decide +kernel
theorem d_MD_note_24 : decode b_MD_note 24 = .ok (.iload_n 1, 1) := by decide +kernel
theorem d_MD_note_25 : decode b_MD_note 25 = .ok (.aload_n 0, 1) := by decide +kernel
theorem d_MD_note_26 : decode b_MD_note 26 = .ok (.iload_n 1, 1) := by decide +kernel
theorem d_MD_note_27 : decode b_MD_note 27 = .ok (.iload_n 2, 1) := by decide +kernel
theorem d_MD_note_28 : decode b_MD_note 28 = .ok (.invokevirtual 170, 3) := by decide +kernel
theorem d_MD_note_31 : decode b_MD_note 31 = .ok (.iastore, 1) := by decide +kernel
theorem d_MD_note_32 : decode b_MD_note 32 = .ok (.aload_n 0, 1) := by decide +kernel
theorem d_MD_note_33 : decode b_MD_note 33 = .ok (.getfield 88, 3) := by decide +kernel
theorem d_MD_note_36 : decode b_MD_note 36 = .ok (.iload 5, 2) := by decide +kernel
theorem d_MD_note_38 : decode b_MD_note 38 = .ok (.dup2, 1) := by decide +kernel
theorem d_MD_note_39 : decode b_MD_note 39 = .ok (.laload, 1) := by decide +kernel
theorem d_MD_note_40 : decode b_MD_note 40 = .ok (.aload_n 0, 1) := by decide +kernel
theorem d_MD_note_41 : decode b_MD_note 41 = .ok (.iload_n 2, 1) := by decide +kernel
theorem d_MD_note_42 : decode b_MD_note 42 = .ok (.i2l, 1) := by decide +kernel
theorem d_MD_note_43 : decode b_MD_note 43 = .ok (.iload 5, 2) := by decide +kernel
theorem d_MD_note_45 : decode b_MD_note 45 = .ok (.aload_n 0, 1) := by decide +kernel
theorem d_MD_note_46 : decode b_MD_note 46 = .ok (.getfield 68, 3) := by decide +kernel
theorem d_MD_note_49 : decode b_MD_note 49 = .ok (.iload 4, 2) := by decide +kernel
theorem d_MD_note_51 : decode b_MD_note 51 = .ok (.invokevirtual 166, 3) := by decide +kernel
theorem d_MD_note_54 : decode b_MD_note 54 = .ok (.ladd, 1) := by decide +kernel
theorem d_MD_note_55 : decode b_MD_note 55 = .ok (.lastore, 1) := by decide +kernel
theorem d_MD_note_56 : decode b_MD_note 56 = .ok (.aload_n 0, 1) := by decide +kernel
theorem d_MD_note_57 : decode b_MD_note 57 = .ok (.dup, 1) := by decide +kernel
theorem d_MD_note_58 : decode b_MD_note 58 = .ok (.getfield 177, 3) := by decide +kernel
theorem d_MD_note_61 : decode b_MD_note 61 = .ok (.iload_n 2, 1) := by decide +kernel
theorem d_MD_note_62 : decode b_MD_note 62 = .ok (.iadd, 1) := by decide +kernel
theorem d_MD_note_63 : decode b_MD_note 63 = .ok (.putfield 177, 3) := by decide +kernel
theorem d_MD_note_66 : decode b_MD_note 66 = .ok (.aload_n 0, 1) := by decide +kernel
theorem d_MD_note_67 : decode b_MD_note 67 = .ok (.dup, 1) := by decide +kernel
theorem d_MD_note_68 : decode b_MD_note 68 = .ok (.getfield 180, 3) := by decide +kernel
theorem d_MD_note_71 : decode b_MD_note 71 = .ok (.aload_n 0, 1) := by decide +kernel
theorem d_MD_note_72 : decode b_MD_note 72 = .ok (.getfield 79, 3) := by decide +kernel
theorem d_MD_note_75 : decode b_MD_note 75 = .ok (.iload_n 1, 1) := by decide +kernel
theorem d_MD_note_76 : decode b_MD_note 76 = .ok (.iaload, 1) := by decide +kernel
theorem d_MD_note_77 : decode b_MD_note 77 = .ok (.i2l, 1) := by decide +kernel
theorem d_MD_note_78 : decode b_MD_note 78 = .ok (.ladd, 1) := by decide +kernel
theorem d_MD_note_79 : decode b_MD_note 79 = .ok (.putfield 180, 3) := by decide +kernel
theorem d_MD_note_82 : decode b_MD_note 82 = .ok (.aload_n 0, 1) := by decide +kernel
theorem d_MD_note_83 : decode b_MD_note 83 = .ok (.dup, 1) := by decide +kernel
theorem d_MD_note_84 : decode b_MD_note 84 = .ok (.getfield 173, 3) := by decide +kernel
theorem d_MD_note_87 : decode b_MD_note 87 = .ok (.aload_n 0, 1) := by decide +kernel
theorem d_MD_note_88 : decode b_MD_note 88 = .ok (.aload_n 0, 1) := by decide +kernel
theorem d_MD_note_89 : decode b_MD_note 89 = .ok (.getfield 79, 3) := by decide +kernel
theorem d_MD_note_92 : decode b_MD_note 92 = .ok (.iload_n 1, 1) := by decide +kernel
theorem d_MD_note_93 : decode b_MD_note 93 = .ok (.iaload, 1) := by decide +kernel
theorem d_MD_note_94 : decode b_MD_note 94 = .ok (.i2l, 1) := by decide +kernel
theorem d_MD_note_95 : decode b_MD_note 95 = .ok (.aload_n 0, 1) := by decide +kernel
theorem d_MD_note_96 : decode b_MD_note 96 = .ok (.getfield 68, 3) := by decide +kernel
theorem d_MD_note_99 : decode b_MD_note 99 = .ok (.iload 5, 2) := by decide +kernel
theorem d_MD_note_101 : decode b_MD_note 101 = .ok (.iload_n 3, 1) := by decide +kernel
theorem d_MD_note_102 : decode b_MD_note 102 = .ok (.invokevirtual 166, 3) := by decide +kernel
theorem d_MD_note_105 : decode b_MD_note 105 = .ok (.ladd, 1) := by decide +kernel
theorem d_MD_note_106 : decode b_MD_note 106 = .ok (.putfield 173, 3) := by decide +kernel
theorem d_MD_note_109 : decode b_MD_note 109 = .ok (.aload_n 0, 1) := by decide +kernel
theorem d_MD_note_110 : decode b_MD_note 110 = .ok (.getfield 85, 3) := by decide +kernel
theorem d_MD_note_113 : decode b_MD_note 113 = .ok (.iload_n 1, 1) := by decide +kernel
theorem d_MD_note_114 : decode b_MD_note 114 = .ok (.iload_n 2, 1) := by decide +kernel
theorem d_MD_note_115 : decode b_MD_note 115 = .ok (.aload_n 0, 1) := by decide +kernel
theorem d_MD_note_116 : decode b_MD_note 116 = .ok (.getfield 47, 3) := by decide +kernel
theorem d_MD_note_119 : decode b_MD_note 119 = .ok (.iload_n 1, 1) := by decide +kernel
theorem d_MD_note_120 : decode b_MD_note 120 = .ok (.iaload, 1) := by decide +kernel
theorem d_MD_note_121 : decode b_MD_note 121 = .ok (.if_icmp .eq 18, 3) := by decide +kernel
theorem d_MD_note_124 : decode b_MD_note 124 = .ok (.aload_n 0, 1) := by decide +kernel
theorem d_MD_note_125 : decode b_MD_note 125 = .ok (.getfield 79, 3) := by decide +kernel
theorem d_MD_note_128 : decode b_MD_note 128 = .ok (.iload_n 1, 1) := by decide +kernel
theorem d_MD_note_129 : decode b_MD_note 129 = .ok (.iaload, 1) := by decide +kernel
theorem d_MD_note_130 : decode b_MD_note 130 = .ok (.aload_n 0, 1) := by decide +kernel
theorem d_MD_note_131 : decode b_MD_note 131 = .ok (.getfield 44, 3) := by decide +kernel
theorem d_MD_note_134 : decode b_MD_note 134 = .ok (.iload_n 1, 1) := by decide +kernel
theorem d_MD_note_135 : decode b_MD_note 135 = .ok (.iaload, 1) := by decide +kernel
theorem d_MD_note_136 : decode b_MD_note 136 = .ok (.if_icmp .ne 7, 3) := by decide +kernel
theorem d_MD_note_139 : decode b_MD_note 139 = .ok (.iconst 1, 1) := by decide +kernel
theorem d_MD_note_140 : decode b_MD_note 140 = .ok (.goto 4, 3) := by decide +kernel
theorem d_MD_note_143 : decode b_MD_note 143 = .ok (.iconst 0, 1) := by decide +kernel
theorem d_MD_note_144 : decode b_MD_note 144 = .ok (.bastore, 1) := by decide +kernel
theorem d_MD_note_145 : decode b_MD_note 145 = .ok (.return_, 1) := by decide +kernel
def MD_note (x1 : Int32) (x2 : Int32) (x3 : Int32) (x4 : Int32) (σ : ST) : Option (ST) :=
  if x2 = 0 then (some σ)
  else (if x1 < 0 ∨ 12 ≤ x1.toNatClampNeg then none else
  nmI (gA σ 16 x1.toNatClampNeg) fun x5_11 =>
  nmS (sA σ 27 x1.toNatClampNeg x2) fun σ19 =>
  bd1 (MD_priceOf x1 x2 σ19) fun r28 =>
  nmS (sA σ19 28 x1.toNatClampNeg r28) fun σ31 =>
  if x5_11 < 0 ∨ 6 ≤ x5_11.toNatClampNeg then none else
  bd1 (MD_costOf x2.toInt64 x5_11 (gI σ31 25) x4 σ31) fun r51 =>
  nmS (sV σ31 x5_11.toNatClampNeg ((gV σ31 x5_11.toNatClampNeg) + r51)) fun σ55 =>
  nmS (sI σ55 32 ((gI σ55 32) + x2)) fun σ63 =>
  nmS (sL σ63 0 ((gL σ63 0) + (gA σ63 28 x1.toNatClampNeg).toInt64)) fun σ79 =>
  bd1 (MD_costOf ((gA σ79 28 x1.toNatClampNeg).toInt64) (gI σ79 25) x5_11 x3 σ79) fun r102 =>
  nmS (sL σ79 1 ((gL σ79 1) + r102)) fun σ106 =>
  if x2 = (gA σ106 20 x1.toNatClampNeg) then (nmS (sA σ106 30 x1.toNatClampNeg (1 : Int32)) fun σ144 =>
  some σ144)
  else (if (gA σ106 28 x1.toNatClampNeg) = (gA σ106 19 x1.toNatClampNeg) then (nmS (sA σ106 30 x1.toNatClampNeg (1 : Int32)) fun σ144 =>
  some σ144)
  else (nmS (sA σ106 30 x1.toNatClampNeg (0 : Int32)) fun σ144 =>
  some σ144)))
set_option maxRecDepth 100000 in
set_option maxHeartbeats 4000000 in
theorem m_MD_note (l : Launch) (D : va_G) (ad : Nat → Nat) (cs : Nat → ClassId) (eE : Nat × Nat) (x1 : Int32) (x2 : Int32) (x3 : Int32) (x4 : Int32) (σ : ST) {res : ST} (hf : MD_note x1 x2 x3 x4 σ = some res) : MS l y_MD_note (Cond.code y_MD_note b_MD_note 6 r_MD_note :: BIG) 2 45 0 0 (wfm ad cs) D (ttf cs) eE [.ref (ad 18), .int x1, .int x2, .int x3, .int x4] σ (PV res) := by
  refine MS.of (cc := b_MD_note) (maxL := 6) (ret := r_MD_note) (by decide) rfl (Nat.le_of_ble_eq_true rfl) (loc := [(0, .ref (ad 18)), (1, .int x1), (2, .int x2), (3, .int x3), (4, .int x4)]) rfl (fun X C Rt => ?_)
  unfold MD_note at hf
  refine j_iload_n C 2 rfl rfl d_MD_note_0 ?_
  refine j_if_ne C d_MD_note_1 rfl (fun c1 => ?_) (fun c1 => ?_)
  · have hf := o_if c1 hf
    refine j_aload_n C 0 rfl rfl d_MD_note_5 ?_
    refine g_MD_ownerOf C (List.mem_cons_of_mem _ wd_4_29) d_MD_note_6 ?_
    refine j_iload_n C 1 rfl rfl d_MD_note_9 ?_
    obtain ⟨g10, hf⟩ := o_gn hf
    refine la_m_ownerOf C g10 d_MD_note_10 ?_
    obtain ⟨x5_11, ex5_11, hf⟩ := o_nmI hf
    refine j_topI ex5_11 ?_
    refine j_istore C (by decide) (loc' := [(5, .int x5_11), (0, .ref (ad 18)), (1, .int x1), (2, .int x2), (3, .int x3), (4, .int x4)]) rfl d_MD_note_11 ?_
    refine j_aload_n C 1 rfl rfl d_MD_note_13 ?_
    refine g_MD_taken C (List.mem_cons_of_mem _ wd_4_49) d_MD_note_14 ?_
    refine j_iload_n C 2 rfl rfl d_MD_note_17 ?_
    refine j_iload_n C 3 rfl rfl d_MD_note_18 ?_
    obtain ⟨σ19, eσ19, hf⟩ := o_nmS hf
    refine sa_m_taken C g10 eσ19 d_MD_note_19 ?_
    refine j_aload_n C 1 rfl rfl d_MD_note_20 ?_
    refine g_MD_prices C (List.mem_cons_of_mem _ wd_4_50) d_MD_note_21 ?_
    refine j_iload_n C 2 rfl rfl d_MD_note_24 ?_
    refine j_aload_n C 1 rfl rfl d_MD_note_25 ?_
    refine j_iload_n C 2 rfl rfl d_MD_note_26 ?_
    refine j_iload_n C 3 rfl rfl d_MD_note_27 ?_
    obtain ⟨r28, h28, hf⟩ := o_b1 hf
    refine j_callV (ci := 10) (Cn := "TollLedgerModel") (T := T_MD) (N := 39) C [.int x1, .int x2] [.int x1, .ref (ad 39)] (m_MD_priceOf _ _ _ _ _ x1 x2 σ19 h28) (gdV wd_4_233 wd_4_235 wp_29 wd_1_11 wc_MD_priceOf) hy_MD_priceOf rfl ⟨18, rfl⟩ rfl rfl (by decide) (by decide) (by decide) (by decide) (Nat.le_of_ble_eq_true rfl) d_MD_note_28 (j_kI (r := r28) (σ1 := σ19) ?_)
    obtain ⟨σ31, eσ31, hf⟩ := o_nmS hf
    refine sa_m_prices C g10 eσ31 d_MD_note_31 ?_
    refine j_aload_n C 1 rfl rfl d_MD_note_32 ?_
    refine g_MD_spent C (List.mem_cons_of_mem _ wd_4_53) d_MD_note_33 ?_
    refine j_iload C 0 rfl d_MD_note_36 ?_
    refine j_dup2 C rfl rfl d_MD_note_38 ?_
    obtain ⟨g39, hf⟩ := o_gn hf
    refine la_m_spent C g39 d_MD_note_39 ?_
    refine j_aload_n C 1 rfl rfl d_MD_note_40 ?_
    refine j_iload_n C 3 rfl rfl d_MD_note_41 ?_
    refine j_i2l C d_MD_note_42 ?_
    refine j_iload C 0 rfl d_MD_note_43 ?_
    refine j_aload_n C 1 rfl rfl d_MD_note_45 ?_
    refine g_MD_me C (List.mem_cons_of_mem _ wd_4_42) d_MD_note_46 ?_
    refine j_iload C 5 rfl d_MD_note_49 ?_
    obtain ⟨r51, h51, hf⟩ := o_b1 hf
    refine j_callV (ci := 10) (Cn := "TollLedgerModel") (T := T_MD) (N := 39) C [.long x2.toInt64, .int x5_11, .int (gI σ31 25), .int x4] [.long (gV σ31 x5_11.toNatClampNeg), .int x5_11, .ref (ad 42)] (m_MD_costOf _ _ _ _ _ x2.toInt64 x5_11 (gI σ31 25) x4 σ31 h51) (gdV wd_4_207 wd_4_209 wp_23 wd_1_11 wc_MD_costOf) hy_MD_costOf rfl ⟨18, rfl⟩ rfl rfl (by decide) (by decide) (by decide) (by decide) (Nat.le_of_ble_eq_true rfl) d_MD_note_51 (j_kL (r := r51) (σ1 := σ31) ?_)
    refine j_ladd C d_MD_note_54 ?_
    obtain ⟨σ55, eσ55, hf⟩ := o_nmS hf
    refine sa_m_spent C g39 eσ55 d_MD_note_55 ?_
    refine j_aload_n C 1 rfl rfl d_MD_note_56 ?_
    refine j_dup C rfl d_MD_note_57 ?_
    refine g_MD_got C (List.mem_cons_of_mem _ wd_4_54) d_MD_note_58 ?_
    refine j_iload_n C 3 rfl rfl d_MD_note_61 ?_
    refine j_iadd C d_MD_note_62 ?_
    obtain ⟨σ63, eσ63, hf⟩ := o_nmS hf
    refine p_MD_got C eσ63 (List.mem_cons_of_mem _ wd_4_54) d_MD_note_63 ?_
    refine j_aload_n C 1 rfl rfl d_MD_note_66 ?_
    refine j_dup C rfl d_MD_note_67 ?_
    refine g_MD_priceSum C (List.mem_cons_of_mem _ wd_4_55) d_MD_note_68 ?_
    refine j_aload_n C 1 rfl rfl d_MD_note_71 ?_
    refine g_MD_prices C (List.mem_cons_of_mem _ wd_4_50) d_MD_note_72 ?_
    refine j_iload_n C 2 rfl rfl d_MD_note_75 ?_
    refine la_m_prices C g10 d_MD_note_76 ?_
    refine j_i2l C d_MD_note_77 ?_
    refine j_ladd C d_MD_note_78 ?_
    obtain ⟨σ79, eσ79, hf⟩ := o_nmS hf
    refine p_MD_priceSum C eσ79 (List.mem_cons_of_mem _ wd_4_55) d_MD_note_79 ?_
    refine j_aload_n C 1 rfl rfl d_MD_note_82 ?_
    refine j_dup C rfl d_MD_note_83 ?_
    refine g_MD_costSum C (List.mem_cons_of_mem _ wd_4_56) d_MD_note_84 ?_
    refine j_aload_n C 1 rfl rfl d_MD_note_87 ?_
    refine j_aload_n C 1 rfl rfl d_MD_note_88 ?_
    refine g_MD_prices C (List.mem_cons_of_mem _ wd_4_50) d_MD_note_89 ?_
    refine j_iload_n C 2 rfl rfl d_MD_note_92 ?_
    refine la_m_prices C g10 d_MD_note_93 ?_
    refine j_i2l C d_MD_note_94 ?_
    refine j_aload_n C 1 rfl rfl d_MD_note_95 ?_
    refine g_MD_me C (List.mem_cons_of_mem _ wd_4_42) d_MD_note_96 ?_
    refine j_iload C 0 rfl d_MD_note_99 ?_
    refine j_iload_n C 4 rfl rfl d_MD_note_101 ?_
    obtain ⟨r102, h102, hf⟩ := o_b1 hf
    refine j_callV (ci := 10) (Cn := "TollLedgerModel") (T := T_MD) (N := 39) C [.long (gA σ79 28 x1.toNatClampNeg).toInt64, .int (gI σ79 25), .int x5_11, .int x3] [.long (gL σ79 1), .ref (ad 18)] (m_MD_costOf _ _ _ _ _ ((gA σ79 28 x1.toNatClampNeg).toInt64) (gI σ79 25) x5_11 x3 σ79 h102) (gdV wd_4_207 wd_4_209 wp_23 wd_1_11 wc_MD_costOf) hy_MD_costOf rfl ⟨18, rfl⟩ rfl rfl (by decide) (by decide) (by decide) (by decide) (Nat.le_of_ble_eq_true rfl) d_MD_note_102 (j_kL (r := r102) (σ1 := σ79) ?_)
    refine j_ladd C d_MD_note_105 ?_
    obtain ⟨σ106, eσ106, hf⟩ := o_nmS hf
    refine p_MD_costSum C eσ106 (List.mem_cons_of_mem _ wd_4_56) d_MD_note_106 ?_
    refine j_aload_n C 1 rfl rfl d_MD_note_109 ?_
    refine g_MD_gone C (List.mem_cons_of_mem _ wd_4_52) d_MD_note_110 ?_
    refine j_iload_n C 2 rfl rfl d_MD_note_113 ?_
    refine j_iload_n C 3 rfl rfl d_MD_note_114 ?_
    refine j_aload_n C 1 rfl rfl d_MD_note_115 ?_
    refine g_MD_gOf C (List.mem_cons_of_mem _ wd_4_33) d_MD_note_116 ?_
    refine j_iload_n C 2 rfl rfl d_MD_note_119 ?_
    refine la_m_gOf C g10 d_MD_note_120 ?_
    refine j_icmp_eq C d_MD_note_121 rfl (fun c121 => ?_) (fun c121 => ?_)
    · have hf := o_it c121 hf
      refine j_iconst C (v := 1) (by decide) d_MD_note_139 ?_
      refine j_goto C d_MD_note_140 rfl ?_
      obtain ⟨σ144, eσ144, hf⟩ := o_nmS hf
      refine sa_m_gone C (by decide) g10 eσ144 d_MD_note_144 ?_
      have hf := Option.some.inj hf
      subst hf
      exact j_vret C Rt (Nat.zero_le _) (Nat.zero_le _) d_MD_note_145 ⟨rfl, rfl⟩
    · have hf := o_if c121 hf
      refine j_aload_n C 1 rfl rfl d_MD_note_124 ?_
      refine g_MD_prices C (List.mem_cons_of_mem _ wd_4_50) d_MD_note_125 ?_
      refine j_iload_n C 2 rfl rfl d_MD_note_128 ?_
      refine la_m_prices C g10 d_MD_note_129 ?_
      refine j_aload_n C 1 rfl rfl d_MD_note_130 ?_
      refine g_MD_wOf C (List.mem_cons_of_mem _ wd_4_32) d_MD_note_131 ?_
      refine j_iload_n C 2 rfl rfl d_MD_note_134 ?_
      refine la_m_wOf C g10 d_MD_note_135 ?_
      refine j_icmp_ne C d_MD_note_136 rfl (fun c136 => ?_) (fun c136 => ?_)
      · have hf := o_if c136 hf
        refine j_iconst C (v := 0) (by decide) d_MD_note_143 ?_
        obtain ⟨σ144, eσ144, hf⟩ := o_nmS hf
        refine sa_m_gone C (by decide) g10 eσ144 d_MD_note_144 ?_
        have hf := Option.some.inj hf
        subst hf
        exact j_vret C Rt (Nat.zero_le _) (Nat.zero_le _) d_MD_note_145 ⟨rfl, rfl⟩
      · have hf := o_it c136 hf
        refine j_iconst C (v := 1) (by decide) d_MD_note_139 ?_
        refine j_goto C d_MD_note_140 rfl ?_
        obtain ⟨σ144, eσ144, hf⟩ := o_nmS hf
        refine sa_m_gone C (by decide) g10 eσ144 d_MD_note_144 ?_
        have hf := Option.some.inj hf
        subst hf
        exact j_vret C Rt (Nat.zero_le _) (Nat.zero_le _) d_MD_note_145 ⟨rfl, rfl⟩
  · have hf := o_it c1 hf
    have hf := Option.some.inj hf
    subst hf
    exact j_vret C Rt (Nat.zero_le _) (Nat.zero_le _) d_MD_note_4 ⟨rfl, rfl⟩
theorem d_MD_take_0 : decode b_MD_take 0 = .ok (.aload_n 0, 1) := by decide +kernel
theorem d_MD_take_1 : decode b_MD_take 1 = .ok (.iconst 0, 1) := by decide +kernel
theorem d_MD_take_2 : decode b_MD_take 2 = .ok (.putfield 177, 3) := by decide +kernel
theorem d_MD_take_5 : decode b_MD_take 5 = .ok (.aload_n 0, 1) := by decide +kernel
theorem d_MD_take_6 : decode b_MD_take 6 = .ok (.lconst 0, 1) := by decide +kernel
theorem d_MD_take_7 : decode b_MD_take 7 = .ok (.putfield 180, 3) := by decide +kernel
theorem d_MD_take_10 : decode b_MD_take 10 = .ok (.aload_n 0, 1) := by decide +kernel
theorem d_MD_take_11 : decode b_MD_take 11 = .ok (.lconst 0, 1) := by decide +kernel
theorem d_MD_take_12 : decode b_MD_take 12 = .ok (.putfield 173, 3) := by decide +kernel
theorem d_MD_take_15 : decode b_MD_take 15 = .ok (.iconst 0, 1) := by decide +kernel
theorem d_MD_take_16 : decode b_MD_take 16 = .ok (.istore 10, 2) := by decide +kernel
theorem d_MD_take_18 : decode b_MD_take 18 = .ok (.iload 10, 2) := by decide +kernel
theorem d_MD_take_20 : decode b_MD_take 20 = .ok (.bipush 12, 2) := by decide +kernel
theorem d_MD_take_22 : decode b_MD_take 22 = .ok (.if_icmp .ge 41, 3) := by decide +kernel
theorem d_MD_take_25 : decode b_MD_take 25 = .ok (.aload_n 0, 1) := by decide +kernel
theorem d_MD_take_26 : decode b_MD_take 26 = .ok (.getfield 76, 3) := by decide +kernel
theorem d_MD_take_29 : decode b_MD_take 29 = .ok (.iload 10, 2) := by decide +kernel
theorem d_MD_take_31 : decode b_MD_take 31 = .ok (.iconst 0, 1) := by decide +kernel
theorem d_MD_take_32 : decode b_MD_take 32 = .ok (.iastore, 1) := by decide +kernel
theorem d_MD_take_33 : decode b_MD_take 33 = .ok (.aload_n 0, 1) := by decide +kernel
theorem d_MD_take_34 : decode b_MD_take 34 = .ok (.getfield 79, 3) := by decide +kernel
theorem d_MD_take_37 : decode b_MD_take 37 = .ok (.iload 10, 2) := by decide +kernel
theorem d_MD_take_39 : decode b_MD_take 39 = .ok (.iconst 0, 1) := by decide +kernel
theorem d_MD_take_40 : decode b_MD_take 40 = .ok (.iastore, 1) := by decide +kernel
theorem d_MD_take_41 : decode b_MD_take 41 = .ok (.aload_n 0, 1) := by decide +kernel
theorem d_MD_take_42 : decode b_MD_take 42 = .ok (.getfield 82, 3) := by decide +kernel
theorem d_MD_take_45 : decode b_MD_take 45 = .ok (.iload 10, 2) := by decide +kernel
theorem d_MD_take_47 : decode b_MD_take 47 = .ok (.iconst 0, 1) := by decide +kernel
theorem d_MD_take_48 : decode b_MD_take 48 = .ok (.bastore, 1) := by decide +kernel
theorem d_MD_take_49 : decode b_MD_take 49 = .ok (.aload_n 0, 1) := by decide +kernel
theorem d_MD_take_50 : decode b_MD_take 50 = .ok (.getfield 85, 3) := by decide +kernel
theorem d_MD_take_53 : decode b_MD_take 53 = .ok (.iload 10, 2) := by decide +kernel
theorem d_MD_take_55 : decode b_MD_take 55 = .ok (.iconst 0, 1) := by decide +kernel
theorem d_MD_take_56 : decode b_MD_take 56 = .ok (.bastore, 1) := by decide +kernel
theorem d_MD_take_57 : decode b_MD_take 57 = .ok (.iinc 10 1, 3) := by decide +kernel
theorem d_MD_take_60 : decode b_MD_take 60 = .ok (.goto (-42), 3) := by decide +kernel
theorem d_MD_take_63 : decode b_MD_take 63 = .ok (.iconst 0, 1) := by decide +kernel
theorem d_MD_take_64 : decode b_MD_take 64 = .ok (.istore 10, 2) := by decide +kernel
theorem d_MD_take_66 : decode b_MD_take 66 = .ok (.iload 10, 2) := by decide +kernel
theorem d_MD_take_68 : decode b_MD_take 68 = .ok (.bipush 6, 2) := by decide +kernel
theorem d_MD_take_70 : decode b_MD_take 70 = .ok (.if_icmp .ge 17, 3) := by decide +kernel
theorem d_MD_take_73 : decode b_MD_take 73 = .ok (.aload_n 0, 1) := by decide +kernel
theorem d_MD_take_74 : decode b_MD_take 74 = .ok (.getfield 88, 3) := by decide +kernel
theorem d_MD_take_77 : decode b_MD_take 77 = .ok (.iload 10, 2) := by decide +kernel
theorem d_MD_take_79 : decode b_MD_take 79 = .ok (.lconst 0, 1) := by decide +kernel
theorem d_MD_take_80 : decode b_MD_take 80 = .ok (.lastore, 1) := by decide +kernel
theorem d_MD_take_81 : decode b_MD_take 81 = .ok (.iinc 10 1, 3) := by decide +kernel
theorem d_MD_take_84 : decode b_MD_take 84 = .ok (.goto (-18), 3) := by decide +kernel
theorem d_MD_take_87 : decode b_MD_take 87 = .ok (.aload_n 0, 1) := by decide +kernel
theorem d_MD_take_88 : decode b_MD_take 88 = .ok (.iload_n 1, 1) := by decide +kernel
theorem d_MD_take_89 : decode b_MD_take 89 = .ok (.iload_n 2, 1) := by decide +kernel
theorem d_MD_take_90 : decode b_MD_take 90 = .ok (.aload_n 0, 1) := by decide +kernel
theorem d_MD_take_91 : decode b_MD_take 91 = .ok (.getfield 68, 3) := by decide +kernel
theorem d_MD_take_94 : decode b_MD_take 94 = .ok (.invokevirtual 183, 3) := by decide +kernel
theorem d_MD_take_97 : decode b_MD_take 97 = .ok (.istore 10, 2) := by decide +kernel
theorem d_MD_take_99 : decode b_MD_take 99 = .ok (.aload_n 0, 1) := by decide +kernel
theorem d_MD_take_100 : decode b_MD_take 100 = .ok (.getfield 177, 3) := by decide +kernel
theorem d_MD_take_103 : decode b_MD_take 103 = .ok (.iload_n 3, 1) := by decide +kernel
theorem d_MD_take_104 : decode b_MD_take 104 = .ok (.if_icmp .ge 237, 3) := by decide +kernel
theorem d_MD_take_107 : decode b_MD_take 107 = .ok (.iload 10, 2) := by decide +kernel
theorem d_MD_take_109 : decode b_MD_take 109 = .ok (.ifCond .lt 232, 3) := by decide +kernel
theorem d_MD_take_112 : decode b_MD_take 112 = .ok (.aload_n 0, 1) := by decide +kernel
theorem d_MD_take_113 : decode b_MD_take 113 = .ok (.getfield 82, 3) := by decide +kernel
theorem d_MD_take_116 : decode b_MD_take 116 = .ok (.iload 10, 2) := by decide +kernel
theorem d_MD_take_118 : decode b_MD_take 118 = .ok (.iconst 1, 1) := by decide +kernel
theorem d_MD_take_119 : decode b_MD_take 119 = .ok (.bastore, 1) := by decide +kernel
theorem d_MD_take_120 : decode b_MD_take 120 = .ok (.lload 8, 2) := by decide +kernel
theorem d_MD_take_122 : decode b_MD_take 122 = .ok (.lconst 0, 1) := by decide +kernel
theorem d_MD_take_123 : decode b_MD_take 123 = .ok (.lcmp, 1) := by decide +kernel
theorem d_MD_take_124 : decode b_MD_take 124 = .ok (.ifCond .lt 29, 3) := by decide +kernel
theorem d_MD_take_127 : decode b_MD_take 127 = .ok (.aload_n 0, 1) := by decide +kernel
theorem d_MD_take_128 : decode b_MD_take 128 = .ok (.getfield 44, 3) := by decide +kernel
theorem d_MD_take_131 : decode b_MD_take 131 = .ok (.iload 10, 2) := by decide +kernel
theorem d_MD_take_133 : decode b_MD_take 133 = .ok (.iaload, 1) := by decide +kernel
theorem d_MD_take_134 : decode b_MD_take 134 = .ok (.i2l, 1) := by decide +kernel
theorem d_MD_take_135 : decode b_MD_take 135 = .ok (.lload 4, 2) := by decide +kernel
theorem d_MD_take_137 : decode b_MD_take 137 = .ok (.lmul, 1) := by decide +kernel
theorem d_MD_take_138 : decode b_MD_take 138 = .ok (.lload 6, 2) := by decide +kernel
theorem d_MD_take_140 : decode b_MD_take 140 = .ok (.aload_n 0, 1) := by decide +kernel
theorem d_MD_take_141 : decode b_MD_take 141 = .ok (.getfield 47, 3) := by decide +kernel
theorem d_MD_take_144 : decode b_MD_take 144 = .ok (.iload 10, 2) := by decide +kernel
theorem d_MD_take_146 : decode b_MD_take 146 = .ok (.iaload, 1) := by decide +kernel
theorem d_MD_take_147 : decode b_MD_take 147 = .ok (.i2l, 1) := by decide +kernel
theorem d_MD_take_148 : decode b_MD_take 148 = .ok (.lmul, 1) := by decide +kernel
theorem d_MD_take_149 : decode b_MD_take 149 = .ok (.lcmp, 1) := by decide +kernel
theorem d_MD_take_150 : decode b_MD_take 150 = .ok (.ifCond .gt 7, 3) := by decide +kernel
theorem d_MD_take_153 : decode b_MD_take 153 = .ok (.iconst 1, 1) := by decide +kernel
theorem d_MD_take_154 : decode b_MD_take 154 = .ok (.goto 4, 3) := by decide +kernel
theorem d_MD_take_157 : decode b_MD_take 157 = .ok (.iconst 0, 1) := by decide +kernel
theorem d_MD_take_158 : decode b_MD_take 158 = .ok (.istore 11, 2) := by decide +kernel
theorem d_MD_take_160 : decode b_MD_take 160 = .ok (.aload_n 0, 1) := by decide +kernel
theorem d_MD_take_161 : decode b_MD_take 161 = .ok (.getfield 85, 3) := by decide +kernel
theorem d_MD_take_164 : decode b_MD_take 164 = .ok (.iload 10, 2) := by decide +kernel
theorem d_MD_take_166 : decode b_MD_take 166 = .ok (.iload 11, 2) := by decide +kernel
theorem d_MD_take_168 : decode b_MD_take 168 = .ok (.ifCond .eq 22, 3) := by decide +kernel
theorem d_MD_take_171 : decode b_MD_take 171 = .ok (.aload_n 0, 1) := by decide +kernel
theorem d_MD_take_172 : decode b_MD_take 172 = .ok (.aload_n 0, 1) := by decide +kernel
theorem d_MD_take_173 : decode b_MD_take 173 = .ok (.getfield 35, 3) := by decide +kernel
theorem d_MD_take_176 : decode b_MD_take 176 = .ok (.iload 10, 2) := by decide +kernel
theorem d_MD_take_178 : decode b_MD_take 178 = .ok (.iaload, 1) := by decide +kernel
theorem d_MD_take_179 : decode b_MD_take 179 = .ok (.iload_n 2, 1) := by decide +kernel
theorem d_MD_take_180 : decode b_MD_take 180 = .ok (.invokevirtual 154, 3) := by decide +kernel
theorem d_MD_take_183 : decode b_MD_take 183 = .ok (.ifCond .ne 7, 3) := by decide +kernel
theorem d_MD_take_186 : decode b_MD_take 186 = .ok (.iconst 1, 1) := by decide +kernel
theorem d_MD_take_187 : decode b_MD_take 187 = .ok (.goto 4, 3) := by decide +kernel
theorem d_MD_take_190 : decode b_MD_take 190 = .ok (.iconst 0, 1) := by decide +kernel
theorem d_MD_take_191 : decode b_MD_take 191 = .ok (.bastore, 1) := by decide +kernel
theorem d_MD_take_192 : decode b_MD_take 192 = .ok (.iload 11, 2) := by decide +kernel
theorem d_MD_take_194 : decode b_MD_take 194 = .ok (.ifCond .eq 132, 3) := by decide +kernel
theorem d_MD_take_197 : decode b_MD_take 197 = .ok (.aload_n 0, 1) := by decide +kernel
theorem d_MD_take_198 : decode b_MD_take 198 = .ok (.getfield 85, 3) := by decide +kernel
theorem d_MD_take_201 : decode b_MD_take 201 = .ok (.iload 10, 2) := by decide +kernel
theorem d_MD_take_203 : decode b_MD_take 203 = .ok (.baload, 1) := by decide +kernel
theorem d_MD_take_204 : decode b_MD_take 204 = .ok (.ifCond .ne 122, 3) := by decide +kernel
theorem d_MD_take_207 : decode b_MD_take 207 = .ok (.iconst 0, 1) := by decide +kernel
theorem d_MD_take_208 : decode b_MD_take 208 = .ok (.istore 12, 2) := by decide +kernel
theorem d_MD_take_210 : decode b_MD_take 210 = .ok (.iload_n 3, 1) := by decide +kernel
theorem d_MD_take_211 : decode b_MD_take 211 = .ok (.aload_n 0, 1) := by decide +kernel
theorem d_MD_take_212 : decode b_MD_take 212 = .ok (.getfield 177, 3) := by decide +kernel
theorem d_MD_take_215 : decode b_MD_take 215 = .ok (.isub, 1) := by decide +kernel
theorem d_MD_take_216 : decode b_MD_take 216 = .ok (.aload_n 0, 1) := by decide +kernel
theorem d_MD_take_217 : decode b_MD_take 217 = .ok (.getfield 47, 3) := by decide +kernel
theorem d_MD_take_220 : decode b_MD_take 220 = .ok (.iload 10, 2) := by decide +kernel
theorem d_MD_take_222 : decode b_MD_take 222 = .ok (.iaload, 1) := by decide +kernel
theorem d_MD_take_223 : decode b_MD_take 223 = .ok (.if_icmp .ge 12, 3) := by decide +kernel
theorem d_MD_take_226 : decode b_MD_take 226 = .ok (.iload_n 3, 1) := by decide +kernel
theorem d_MD_take_227 : decode b_MD_take 227 = .ok (.aload_n 0, 1) := by decide +kernel
theorem d_MD_take_228 : decode b_MD_take 228 = .ok (.getfield 177, 3) := by decide +kernel
theorem d_MD_take_231 : decode b_MD_take 231 = .ok (.isub, 1) := by decide +kernel
theorem d_MD_take_232 : decode b_MD_take 232 = .ok (.goto 10, 3) := by decide +kernel
theorem d_MD_take_235 : decode b_MD_take 235 = .ok (.aload_n 0, 1) := by decide +kernel
theorem d_MD_take_236 : decode b_MD_take 236 = .ok (.getfield 47, 3) := by decide +kernel
theorem d_MD_take_239 : decode b_MD_take 239 = .ok (.iload 10, 2) := by decide +kernel
theorem d_MD_take_241 : decode b_MD_take 241 = .ok (.iaload, 1) := by decide +kernel
theorem d_MD_take_242 : decode b_MD_take 242 = .ok (.istore 13, 2) := by decide +kernel
theorem d_MD_take_244 : decode b_MD_take 244 = .ok (.iload 12, 2) := by decide +kernel
theorem d_MD_take_246 : decode b_MD_take 246 = .ok (.iload 13, 2) := by decide +kernel
theorem d_MD_take_248 : decode b_MD_take 248 = .ok (.if_icmp .ge 68, 3) := by decide +kernel
theorem d_MD_take_251 : decode b_MD_take 251 = .ok (.iload 12, 2) := by decide +kernel
theorem d_MD_take_253 : decode b_MD_take 253 = .ok (.iload 13, 2) := by decide +kernel
theorem d_MD_take_255 : decode b_MD_take 255 = .ok (.iadd, 1) := by decide +kernel
theorem d_MD_take_256 : decode b_MD_take 256 = .ok (.iconst 1, 1) := by decide +kernel
theorem d_MD_take_257 : decode b_MD_take 257 = .ok (.iadd, 1) := by decide +kernel
theorem d_MD_take_258 : decode b_MD_take 258 = .ok (.iconst 2, 1) := by decide +kernel
theorem d_MD_take_259 : decode b_MD_take 259 = .ok (.idiv, 1) := by decide +kernel
theorem d_MD_take_260 : decode b_MD_take 260 = .ok (.istore 14, 2) := by decide +kernel
theorem d_MD_take_262 : decode b_MD_take 262 = .ok (.aload_n 0, 1) := by decide +kernel
theorem d_MD_take_263 : decode b_MD_take 263 = .ok (.iload 10, 2) := by decide +kernel
theorem d_MD_take_265 : decode b_MD_take 265 = .ok (.iload 14, 2) := by decide +kernel
theorem d_MD_take_267 : decode b_MD_take 267 = .ok (.iload_n 1, 1) := by decide +kernel
theorem d_MD_take_268 : decode b_MD_take 268 = .ok (.iload_n 2, 1) := by decide +kernel
theorem d_MD_take_269 : decode b_MD_take 269 = .ok (.lload 6, 2) := by decide +kernel
theorem d_MD_take_271 : decode b_MD_take 271 = .ok (.aload_n 0, 1) := by decide +kernel
theorem d_MD_take_272 : decode b_MD_take 272 = .ok (.getfield 180, 3) := by decide +kernel
theorem d_MD_take_275 : decode b_MD_take 275 = .ok (.lsub, 1) := by decide +kernel
theorem d_MD_take_276 : decode b_MD_take 276 = .ok (.lload 8, 2) := by decide +kernel
theorem d_MD_take_278 : decode b_MD_take 278 = .ok (.invokevirtual 186, 3) := by decide +kernel
theorem d_MD_take_281 : decode b_MD_take 281 = .ok (.istore 15, 2) := by decide +kernel
theorem d_MD_take_283 : decode b_MD_take 283 = .ok (.iload 15, 2) := by decide +kernel
theorem d_MD_take_285 : decode b_MD_take 285 = .ok (.ifCond .eq 8, 3) := by decide +kernel
theorem d_MD_take_288 : decode b_MD_take 288 = .ok (.iload 14, 2) := by decide +kernel
theorem d_MD_take_290 : decode b_MD_take 290 = .ok (.goto 5, 3) := by decide +kernel
theorem d_MD_take_293 : decode b_MD_take 293 = .ok (.iload 12, 2) := by decide +kernel
theorem d_MD_take_295 : decode b_MD_take 295 = .ok (.istore 12, 2) := by decide +kernel
theorem d_MD_take_297 : decode b_MD_take 297 = .ok (.iload 15, 2) := by decide +kernel
theorem d_MD_take_299 : decode b_MD_take 299 = .ok (.ifCond .eq 8, 3) := by decide +kernel
theorem d_MD_take_302 : decode b_MD_take 302 = .ok (.iload 13, 2) := by decide +kernel
theorem d_MD_take_304 : decode b_MD_take 304 = .ok (.goto 7, 3) := by decide +kernel
theorem d_MD_take_307 : decode b_MD_take 307 = .ok (.iload 14, 2) := by decide +kernel
theorem d_MD_take_309 : decode b_MD_take 309 = .ok (.iconst 1, 1) := by decide +kernel
theorem d_MD_take_310 : decode b_MD_take 310 = .ok (.isub, 1) := by decide +kernel
theorem d_MD_take_311 : decode b_MD_take 311 = .ok (.istore 13, 2) := by decide +kernel
theorem d_MD_take_313 : decode b_MD_take 313 = .ok (.goto (-69), 3) := by decide +kernel
theorem d_MD_take_316 : decode b_MD_take 316 = .ok (.aload_n 0, 1) := by decide +kernel
theorem d_MD_take_317 : decode b_MD_take 317 = .ok (.iload 10, 2) := by decide +kernel
theorem d_MD_take_319 : decode b_MD_take 319 = .ok (.iload 12, 2) := by decide +kernel
theorem d_MD_take_321 : decode b_MD_take 321 = .ok (.iload_n 1, 1) := by decide +kernel
theorem d_MD_take_322 : decode b_MD_take 322 = .ok (.iload_n 2, 1) := by decide +kernel
theorem d_MD_take_323 : decode b_MD_take 323 = .ok (.invokevirtual 190, 3) := by decide +kernel
theorem d_MD_take_326 : decode b_MD_take 326 = .ok (.aload_n 0, 1) := by decide +kernel
theorem d_MD_take_327 : decode b_MD_take 327 = .ok (.iload_n 1, 1) := by decide +kernel
theorem d_MD_take_328 : decode b_MD_take 328 = .ok (.iload_n 2, 1) := by decide +kernel
theorem d_MD_take_329 : decode b_MD_take 329 = .ok (.aload_n 0, 1) := by decide +kernel
theorem d_MD_take_330 : decode b_MD_take 330 = .ok (.getfield 68, 3) := by decide +kernel
theorem d_MD_take_333 : decode b_MD_take 333 = .ok (.invokevirtual 183, 3) := by decide +kernel
theorem d_MD_take_336 : decode b_MD_take 336 = .ok (.istore 10, 2) := by decide +kernel
theorem d_MD_take_338 : decode b_MD_take 338 = .ok (.goto (-239), 3) := by decide +kernel
theorem d_MD_take_341 : decode b_MD_take 341 = .ok (.return_, 1) := by decide +kernel
def MD_take_c326 (kb99 : Int32 → Int32 → Int32 → Int64 → Int64 → Int64 → Int32 → ST → Option (ST)) (x1 : Int32) (x2 : Int32) (x3 : Int32) (x4 : Int64) (x6 : Int64) (x8 : Int64) (σ : ST) : Option (ST) :=
  bd1 (MD_nextOf x1 x2 (gI σ 25) σ) fun r333 =>
  kb99 x1 x2 x3 x4 x6 x8 r333 σ
set_option maxRecDepth 100000 in
set_option maxHeartbeats 4000000 in
theorem w_MD_take_c326 {X : JX} (C : JC X l D (ttf cs) eE b_MD_take "TollLedgerModel" 16 (Cond.code y_MD_take b_MD_take 16 r_MD_take :: BIG) 5 118 0 0) {res : ST} (Rt : JR X (wfm ad cs) 0 0 (PV res) r_MD_take "take") {kb99 : Int32 → Int32 → Int32 → Int64 → Int64 → Int64 → Int32 → ST → Option (ST)} (hk99 : ∀ (x1 : Int32) (x2 : Int32) (x3 : Int32) (x4 : Int64) (x6 : Int64) (x8 : Int64) (x10 : Int32) (σ : ST), kb99 x1 x2 x3 x4 x6 x8 x10 σ = some res → J (wfm ad cs) X 16 0 0 σ 99 [(0, .ref (ad 18)), (1, .int x1), (2, .int x2), (3, .int x3), (4, .long x4), (6, .long x6), (8, .long x8), (10, .int x10)] []) (x1 : Int32) (x2 : Int32) (x3 : Int32) (x4 : Int64) (x6 : Int64) (x8 : Int64) (σ : ST) (hf : MD_take_c326 kb99 x1 x2 x3 x4 x6 x8 σ = some res) : J (wfm ad cs) X 16 0 0 σ 326 [(0, .ref (ad 18)), (1, .int x1), (2, .int x2), (3, .int x3), (4, .long x4), (6, .long x6), (8, .long x8)] [] := by
  unfold MD_take_c326 at hf
  refine j_aload_n C 0 rfl rfl d_MD_take_326 ?_
  refine j_iload_n C 1 rfl rfl d_MD_take_327 ?_
  refine j_iload_n C 2 rfl rfl d_MD_take_328 ?_
  refine j_aload_n C 0 rfl rfl d_MD_take_329 ?_
  refine g_MD_me C (List.mem_cons_of_mem _ wd_4_42) d_MD_take_330 ?_
  obtain ⟨r333, h333, hf⟩ := o_b1 hf
  refine j_callV (ci := 10) (Cn := "TollLedgerModel") (T := T_MD) (N := 39) C [.int x1, .int x2, .int (gI σ 25)] [] (m_MD_nextOf _ _ _ _ _ x1 x2 (gI σ 25) σ h333) (gdV wd_4_217 wd_4_219 wp_25 wd_1_11 wc_MD_nextOf) hy_MD_nextOf rfl ⟨18, rfl⟩ rfl rfl (by decide) (by decide) (by decide) (by decide) (Nat.le_of_ble_eq_true rfl) d_MD_take_333 (j_kI (r := r333) (σ1 := σ) ?_)
  refine j_istore C (by decide) (loc' := [(10, .int r333), (0, .ref (ad 18)), (1, .int x1), (2, .int x2), (3, .int x3), (4, .long x4), (6, .long x6), (8, .long x8)]) rfl d_MD_take_336 ?_
  refine j_goto C d_MD_take_338 rfl ?_
  refine j_sub [1, 2, 3, 4, 5, 6, 7, 0] rfl ?_
  exact hk99 x1 x2 x3 x4 x6 x8 r333 σ hf
def MD_take_c295 (kb99 : Int32 → Int32 → Int32 → Int64 → Int64 → Int64 → Int32 → ST → Option (ST)) (kb244 : Int32 → Int32 → Int32 → Int64 → Int64 → Int64 → Int32 → Int32 → Int32 → ST → Option (ST)) (x1 : Int32) (x2 : Int32) (x3 : Int32) (x4 : Int64) (x6 : Int64) (x8 : Int64) (x10 : Int32) (x13 : Int32) (x14 : Int32) (x15 : Int32) (s0 : Int32) (σ : ST) : Option (ST) :=
  if x15 = 0 then (nmI (x14 - (1 : Int32)) fun x13_311 =>
  kb244 x1 x2 x3 x4 x6 x8 x10 s0 x13_311 σ)
  else (kb244 x1 x2 x3 x4 x6 x8 x10 s0 x13 σ)
set_option maxRecDepth 100000 in
set_option maxHeartbeats 4000000 in
theorem w_MD_take_c295 {X : JX} (C : JC X l D (ttf cs) eE b_MD_take "TollLedgerModel" 16 (Cond.code y_MD_take b_MD_take 16 r_MD_take :: BIG) 5 118 0 0) {res : ST} (Rt : JR X (wfm ad cs) 0 0 (PV res) r_MD_take "take") {kb99 : Int32 → Int32 → Int32 → Int64 → Int64 → Int64 → Int32 → ST → Option (ST)} {kb244 : Int32 → Int32 → Int32 → Int64 → Int64 → Int64 → Int32 → Int32 → Int32 → ST → Option (ST)} (hk99 : ∀ (x1 : Int32) (x2 : Int32) (x3 : Int32) (x4 : Int64) (x6 : Int64) (x8 : Int64) (x10 : Int32) (σ : ST), kb99 x1 x2 x3 x4 x6 x8 x10 σ = some res → J (wfm ad cs) X 16 0 0 σ 99 [(0, .ref (ad 18)), (1, .int x1), (2, .int x2), (3, .int x3), (4, .long x4), (6, .long x6), (8, .long x8), (10, .int x10)] []) (hk244 : ∀ (x1 : Int32) (x2 : Int32) (x3 : Int32) (x4 : Int64) (x6 : Int64) (x8 : Int64) (x10 : Int32) (x12 : Int32) (x13 : Int32) (σ : ST), kb244 x1 x2 x3 x4 x6 x8 x10 x12 x13 σ = some res → J (wfm ad cs) X 16 0 0 σ 244 [(0, .ref (ad 18)), (1, .int x1), (2, .int x2), (3, .int x3), (4, .long x4), (6, .long x6), (8, .long x8), (10, .int x10), (12, .int x12), (13, .int x13)] []) (x1 : Int32) (x2 : Int32) (x3 : Int32) (x4 : Int64) (x6 : Int64) (x8 : Int64) (x10 : Int32) (x13 : Int32) (x14 : Int32) (x15 : Int32) (s0 : Int32) (σ : ST) (hf : MD_take_c295 kb99 kb244 x1 x2 x3 x4 x6 x8 x10 x13 x14 x15 s0 σ = some res) : J (wfm ad cs) X 16 0 0 σ 295 [(0, .ref (ad 18)), (1, .int x1), (2, .int x2), (3, .int x3), (4, .long x4), (6, .long x6), (8, .long x8), (10, .int x10), (13, .int x13), (14, .int x14), (15, .int x15)] [.int s0] := by
  unfold MD_take_c295 at hf
  refine j_istore C (by decide) (loc' := [(12, .int s0), (0, .ref (ad 18)), (1, .int x1), (2, .int x2), (3, .int x3), (4, .long x4), (6, .long x6), (8, .long x8), (10, .int x10), (13, .int x13), (14, .int x14), (15, .int x15)]) rfl d_MD_take_295 ?_
  refine j_iload C 11 rfl d_MD_take_297 ?_
  refine j_if_eq C d_MD_take_299 rfl (fun c299 => ?_) (fun c299 => ?_)
  · have hf := o_it c299 hf
    refine j_iload C 10 rfl d_MD_take_307 ?_
    refine j_iconst C (v := 1) (by decide) d_MD_take_309 ?_
    refine j_isub C d_MD_take_310 ?_
    obtain ⟨x13_311, ex13_311, hf⟩ := o_nmI hf
    refine j_topI ex13_311 ?_
    refine j_istore C (by decide) (loc' := [(13, .int x13_311), (12, .int s0), (0, .ref (ad 18)), (1, .int x1), (2, .int x2), (3, .int x3), (4, .long x4), (6, .long x6), (8, .long x8), (10, .int x10), (14, .int x14), (15, .int x15)]) rfl d_MD_take_311 ?_
    refine j_goto C d_MD_take_313 rfl ?_
    refine j_sub [2, 3, 4, 5, 6, 7, 8, 9, 1, 0] rfl ?_
    exact hk244 x1 x2 x3 x4 x6 x8 x10 s0 x13_311 σ hf
  · have hf := o_if c299 hf
    refine j_iload C 9 rfl d_MD_take_302 ?_
    refine j_goto C d_MD_take_304 rfl ?_
    refine j_istore C (by decide) (loc' := [(13, .int x13), (12, .int s0), (0, .ref (ad 18)), (1, .int x1), (2, .int x2), (3, .int x3), (4, .long x4), (6, .long x6), (8, .long x8), (10, .int x10), (14, .int x14), (15, .int x15)]) rfl d_MD_take_311 ?_
    refine j_goto C d_MD_take_313 rfl ?_
    refine j_sub [2, 3, 4, 5, 6, 7, 8, 9, 1, 0] rfl ?_
    exact hk244 x1 x2 x3 x4 x6 x8 x10 s0 x13 σ hf
def MD_take_b244 (kb99 : Int32 → Int32 → Int32 → Int64 → Int64 → Int64 → Int32 → ST → Option (ST)) (kb244 : Int32 → Int32 → Int32 → Int64 → Int64 → Int64 → Int32 → Int32 → Int32 → ST → Option (ST)) (x1 : Int32) (x2 : Int32) (x3 : Int32) (x4 : Int64) (x6 : Int64) (x8 : Int64) (x10 : Int32) (x12 : Int32) (x13 : Int32) (σ : ST) : Option (ST) :=
  if x13 ≤ x12 then (bd1 (MD_note x10 x12 x1 x2 σ) fun σ323 =>
  MD_take_c326 kb99 x1 x2 x3 x4 x6 x8 σ323)
  else (nmI (((x12 + x13) + (1 : Int32)) / (2 : Int32)) fun x14_260 =>
  bd1 (MD_canTake x10 x14_260 x1 x2 (x6 - (gL σ 0)) x8 σ) fun r278 =>
  if r278 = 0 then (MD_take_c295 kb99 kb244 x1 x2 x3 x4 x6 x8 x10 x13 x14_260 r278 x12 σ)
  else (MD_take_c295 kb99 kb244 x1 x2 x3 x4 x6 x8 x10 x13 x14_260 r278 x14_260 σ))
set_option maxRecDepth 100000 in
set_option maxHeartbeats 4000000 in
theorem w_MD_take_b244 {X : JX} (C : JC X l D (ttf cs) eE b_MD_take "TollLedgerModel" 16 (Cond.code y_MD_take b_MD_take 16 r_MD_take :: BIG) 5 118 0 0) {res : ST} (Rt : JR X (wfm ad cs) 0 0 (PV res) r_MD_take "take") {kb99 : Int32 → Int32 → Int32 → Int64 → Int64 → Int64 → Int32 → ST → Option (ST)} {kb244 : Int32 → Int32 → Int32 → Int64 → Int64 → Int64 → Int32 → Int32 → Int32 → ST → Option (ST)} (hk99 : ∀ (x1 : Int32) (x2 : Int32) (x3 : Int32) (x4 : Int64) (x6 : Int64) (x8 : Int64) (x10 : Int32) (σ : ST), kb99 x1 x2 x3 x4 x6 x8 x10 σ = some res → J (wfm ad cs) X 16 0 0 σ 99 [(0, .ref (ad 18)), (1, .int x1), (2, .int x2), (3, .int x3), (4, .long x4), (6, .long x6), (8, .long x8), (10, .int x10)] []) (hk244 : ∀ (x1 : Int32) (x2 : Int32) (x3 : Int32) (x4 : Int64) (x6 : Int64) (x8 : Int64) (x10 : Int32) (x12 : Int32) (x13 : Int32) (σ : ST), kb244 x1 x2 x3 x4 x6 x8 x10 x12 x13 σ = some res → J (wfm ad cs) X 16 0 0 σ 244 [(0, .ref (ad 18)), (1, .int x1), (2, .int x2), (3, .int x3), (4, .long x4), (6, .long x6), (8, .long x8), (10, .int x10), (12, .int x12), (13, .int x13)] []) (x1 : Int32) (x2 : Int32) (x3 : Int32) (x4 : Int64) (x6 : Int64) (x8 : Int64) (x10 : Int32) (x12 : Int32) (x13 : Int32) (σ : ST) (hf : MD_take_b244 kb99 kb244 x1 x2 x3 x4 x6 x8 x10 x12 x13 σ = some res) : J (wfm ad cs) X 16 0 0 σ 244 [(0, .ref (ad 18)), (1, .int x1), (2, .int x2), (3, .int x3), (4, .long x4), (6, .long x6), (8, .long x8), (10, .int x10), (12, .int x12), (13, .int x13)] [] := by
  unfold MD_take_b244 at hf
  refine j_iload C 8 rfl d_MD_take_244 ?_
  refine j_iload C 9 rfl d_MD_take_246 ?_
  refine j_icmp_ge C d_MD_take_248 rfl (fun c248 => ?_) (fun c248 => ?_)
  · have hf := o_it c248 hf
    refine j_aload_n C 0 rfl rfl d_MD_take_316 ?_
    refine j_iload C 7 rfl d_MD_take_317 ?_
    refine j_iload C 8 rfl d_MD_take_319 ?_
    refine j_iload_n C 1 rfl rfl d_MD_take_321 ?_
    refine j_iload_n C 2 rfl rfl d_MD_take_322 ?_
    obtain ⟨σ323, h323, hf⟩ := o_b1 hf
    refine j_callV (ci := 10) (Cn := "TollLedgerModel") (T := T_MD) (N := 39) C [.int x10, .int x12, .int x1, .int x2] [] (m_MD_note _ _ _ _ _ x10 x12 x1 x2 σ h323) (gdV wd_4_237 wd_4_239 wp_30 wd_1_11 wc_MD_note) hy_MD_note rfl ⟨18, rfl⟩ rfl rfl (by decide) (by decide) (by decide) (by decide) (Nat.le_of_ble_eq_true rfl) d_MD_take_323 (j_kV (σ1 := σ323) ?_)
    refine j_sub [0, 1, 2, 3, 4, 5, 6] rfl ?_
    exact w_MD_take_c326 C Rt hk99 x1 x2 x3 x4 x6 x8 σ323 hf
  · have hf := o_if c248 hf
    refine j_iload C 8 rfl d_MD_take_251 ?_
    refine j_iload C 9 rfl d_MD_take_253 ?_
    refine j_iadd C d_MD_take_255 ?_
    refine j_iconst C (v := 1) (by decide) d_MD_take_256 ?_
    refine j_iadd C d_MD_take_257 ?_
    refine j_iconst C (v := 2) (by decide) d_MD_take_258 ?_
    refine j_idiv C (by decide) d_MD_take_259 ?_
    obtain ⟨x14_260, ex14_260, hf⟩ := o_nmI hf
    refine j_topI ex14_260 ?_
    refine j_istore C (by decide) (loc' := [(14, .int x14_260), (0, .ref (ad 18)), (1, .int x1), (2, .int x2), (3, .int x3), (4, .long x4), (6, .long x6), (8, .long x8), (10, .int x10), (12, .int x12), (13, .int x13)]) rfl d_MD_take_260 ?_
    refine j_aload_n C 1 rfl rfl d_MD_take_262 ?_
    refine j_iload C 8 rfl d_MD_take_263 ?_
    refine j_iload C 0 rfl d_MD_take_265 ?_
    refine j_iload_n C 2 rfl rfl d_MD_take_267 ?_
    refine j_iload_n C 3 rfl rfl d_MD_take_268 ?_
    refine j_lload C 6 rfl d_MD_take_269 ?_
    refine j_aload_n C 1 rfl rfl d_MD_take_271 ?_
    refine g_MD_priceSum C (List.mem_cons_of_mem _ wd_4_55) d_MD_take_272 ?_
    refine j_lsub C d_MD_take_275 ?_
    refine j_lload C 7 rfl d_MD_take_276 ?_
    obtain ⟨r278, h278, hf⟩ := o_b1 hf
    refine j_callV (ci := 10) (Cn := "TollLedgerModel") (T := T_MD) (N := 39) C [.int x10, .int x14_260, .int x1, .int x2, .long (x6 - (gL σ 0)), .long x8] [] (m_MD_canTake _ _ _ _ _ x10 x14_260 x1 x2 (x6 - (gL σ 0)) x8 σ h278) (gdV wd_4_229 wd_4_231 wp_28 wd_1_11 wc_MD_canTake) hy_MD_canTake rfl ⟨18, rfl⟩ rfl rfl (by decide) (by decide) (by decide) (by decide) (Nat.le_of_ble_eq_true rfl) d_MD_take_278 (j_kI (r := r278) (σ1 := σ) ?_)
    refine j_istore C (by decide) (loc' := [(15, .int r278), (14, .int x14_260), (0, .ref (ad 18)), (1, .int x1), (2, .int x2), (3, .int x3), (4, .long x4), (6, .long x6), (8, .long x8), (10, .int x10), (12, .int x12), (13, .int x13)]) rfl d_MD_take_281 ?_
    refine j_iload C 0 rfl d_MD_take_283 ?_
    refine j_if_eq C d_MD_take_285 rfl (fun c285 => ?_) (fun c285 => ?_)
    · have hf := o_it c285 hf
      refine j_iload C 10 rfl d_MD_take_293 ?_
      refine j_sub [2, 3, 4, 5, 6, 7, 8, 9, 11, 1, 0] rfl ?_
      exact w_MD_take_c295 C Rt hk99 hk244 x1 x2 x3 x4 x6 x8 x10 x13 x14_260 r278 x12 σ hf
    · have hf := o_if c285 hf
      refine j_iload C 1 rfl d_MD_take_288 ?_
      refine j_goto C d_MD_take_290 rfl ?_
      refine j_sub [2, 3, 4, 5, 6, 7, 8, 9, 11, 1, 0] rfl ?_
      exact w_MD_take_c295 C Rt hk99 hk244 x1 x2 x3 x4 x6 x8 x10 x13 x14_260 r278 x14_260 σ hf
def MD_take_L244 (kb99 : Int32 → Int32 → Int32 → Int64 → Int64 → Int64 → Int32 → ST → Option (ST)) : Nat → Int32 → Int32 → Int32 → Int64 → Int64 → Int64 → Int32 → Int32 → Int32 → ST → Option (ST)
  | 0, _, _, _, _, _, _, _, _, _, _ => none
  | N + 1, x1, x2, x3, x4, x6, x8, x10, x12, x13, σ => MD_take_b244 kb99 (fun x1 x2 x3 x4 x6 x8 x10 x12 x13 σ => MD_take_L244 kb99 N x1 x2 x3 x4 x6 x8 x10 x12 x13 σ) x1 x2 x3 x4 x6 x8 x10 x12 x13 σ
theorem w_MD_take_L244 {X : JX} (C : JC X l D (ttf cs) eE b_MD_take "TollLedgerModel" 16 (Cond.code y_MD_take b_MD_take 16 r_MD_take :: BIG) 5 118 0 0) {res : ST} (Rt : JR X (wfm ad cs) 0 0 (PV res) r_MD_take "take") {kb99 : Int32 → Int32 → Int32 → Int64 → Int64 → Int64 → Int32 → ST → Option (ST)} (hk99 : ∀ (x1 : Int32) (x2 : Int32) (x3 : Int32) (x4 : Int64) (x6 : Int64) (x8 : Int64) (x10 : Int32) (σ : ST), kb99 x1 x2 x3 x4 x6 x8 x10 σ = some res → J (wfm ad cs) X 16 0 0 σ 99 [(0, .ref (ad 18)), (1, .int x1), (2, .int x2), (3, .int x3), (4, .long x4), (6, .long x6), (8, .long x8), (10, .int x10)] []) (N : Nat) (x1 : Int32) (x2 : Int32) (x3 : Int32) (x4 : Int64) (x6 : Int64) (x8 : Int64) (x10 : Int32) (x12 : Int32) (x13 : Int32) (σ : ST) (hf : MD_take_L244 kb99 N x1 x2 x3 x4 x6 x8 x10 x12 x13 σ = some res) : J (wfm ad cs) X 16 0 0 σ 244 [(0, .ref (ad 18)), (1, .int x1), (2, .int x2), (3, .int x3), (4, .long x4), (6, .long x6), (8, .long x8), (10, .int x10), (12, .int x12), (13, .int x13)] [] := by
  induction N generalizing x1 x2 x3 x4 x6 x8 x10 x12 x13 σ with
  | zero => exact nomatch hf
  | succ N ih => exact w_MD_take_b244 C Rt hk99 (fun x1 x2 x3 x4 x6 x8 x10 x12 x13 σ h => ih x1 x2 x3 x4 x6 x8 x10 x12 x13 σ h) x1 x2 x3 x4 x6 x8 x10 x12 x13 σ hf
def MD_take_c191 (kb99 : Int32 → Int32 → Int32 → Int64 → Int64 → Int64 → Int32 → ST → Option (ST)) (x1 : Int32) (x2 : Int32) (x3 : Int32) (x4 : Int64) (x6 : Int64) (x8 : Int64) (x10 : Int32) (x11 : Int32) (s1 : Int32) (s2 : Int32) (σ : ST) : Option (ST) :=
  if s1 < 0 ∨ 12 ≤ s1.toNatClampNeg then none else
  if ¬ (s2 = 0 ∨ s2 = 1) then none else
  nmS (sA σ 30 s1.toNatClampNeg s2) fun σ191 =>
  if x11 = 0 then (MD_take_c326 kb99 x1 x2 x3 x4 x6 x8 σ191)
  else (if x10 < 0 ∨ 12 ≤ x10.toNatClampNeg then none else
  if (gA σ191 30 x10.toNatClampNeg) = 0 then (if (gA σ191 20 x10.toNatClampNeg) ≤ (x3 - (gI σ191 32)) then (nmI (gA σ191 20 x10.toNatClampNeg) fun x13_242 =>
  MD_take_L244 kb99 FU x1 x2 x3 x4 x6 x8 x10 (0 : Int32) x13_242 σ191)
  else (nmI (x3 - (gI σ191 32)) fun x13_242 =>
  MD_take_L244 kb99 FU x1 x2 x3 x4 x6 x8 x10 (0 : Int32) x13_242 σ191))
  else (MD_take_c326 kb99 x1 x2 x3 x4 x6 x8 σ191))
set_option maxRecDepth 100000 in
set_option maxHeartbeats 4000000 in
theorem w_MD_take_c191 {X : JX} (C : JC X l D (ttf cs) eE b_MD_take "TollLedgerModel" 16 (Cond.code y_MD_take b_MD_take 16 r_MD_take :: BIG) 5 118 0 0) {res : ST} (Rt : JR X (wfm ad cs) 0 0 (PV res) r_MD_take "take") {kb99 : Int32 → Int32 → Int32 → Int64 → Int64 → Int64 → Int32 → ST → Option (ST)} (hk99 : ∀ (x1 : Int32) (x2 : Int32) (x3 : Int32) (x4 : Int64) (x6 : Int64) (x8 : Int64) (x10 : Int32) (σ : ST), kb99 x1 x2 x3 x4 x6 x8 x10 σ = some res → J (wfm ad cs) X 16 0 0 σ 99 [(0, .ref (ad 18)), (1, .int x1), (2, .int x2), (3, .int x3), (4, .long x4), (6, .long x6), (8, .long x8), (10, .int x10)] []) (x1 : Int32) (x2 : Int32) (x3 : Int32) (x4 : Int64) (x6 : Int64) (x8 : Int64) (x10 : Int32) (x11 : Int32) (s1 : Int32) (s2 : Int32) (σ : ST) (hf : MD_take_c191 kb99 x1 x2 x3 x4 x6 x8 x10 x11 s1 s2 σ = some res) : J (wfm ad cs) X 16 0 0 σ 191 [(0, .ref (ad 18)), (1, .int x1), (2, .int x2), (3, .int x3), (4, .long x4), (6, .long x6), (8, .long x8), (10, .int x10), (11, .int x11)] [.int s2, .int s1, .ref (ad 41)] := by
  unfold MD_take_c191 at hf
  obtain ⟨g191, hf⟩ := o_gn hf
  obtain ⟨g191bb, hf⟩ := o_gn hf
  obtain ⟨σ191, eσ191, hf⟩ := o_nmS hf
  refine sa_m_gone C (Decidable.not_not.mp g191bb) g191 eσ191 d_MD_take_191 ?_
  refine j_iload C 8 rfl d_MD_take_192 ?_
  refine j_if_eq C d_MD_take_194 rfl (fun c194 => ?_) (fun c194 => ?_)
  · have hf := o_it c194 hf
    refine j_sub [0, 1, 2, 3, 4, 5, 6] rfl ?_
    exact w_MD_take_c326 C Rt hk99 x1 x2 x3 x4 x6 x8 σ191 hf
  · have hf := o_if c194 hf
    refine j_aload_n C 0 rfl rfl d_MD_take_197 ?_
    refine g_MD_gone C (List.mem_cons_of_mem _ wd_4_52) d_MD_take_198 ?_
    refine j_iload C 7 rfl d_MD_take_201 ?_
    obtain ⟨g203, hf⟩ := o_gn hf
    refine la_m_gone C g203 d_MD_take_203 ?_
    refine j_if_ne C d_MD_take_204 rfl (fun c204 => ?_) (fun c204 => ?_)
    · have hf := o_if c204 hf
      refine j_sub [0, 1, 2, 3, 4, 5, 6] rfl ?_
      exact w_MD_take_c326 C Rt hk99 x1 x2 x3 x4 x6 x8 σ191 hf
    · have hf := o_it c204 hf
      refine j_iconst C (v := 0) (by decide) d_MD_take_207 ?_
      refine j_istore C (by decide) (loc' := [(12, .int (0 : Int32)), (0, .ref (ad 18)), (1, .int x1), (2, .int x2), (3, .int x3), (4, .long x4), (6, .long x6), (8, .long x8), (10, .int x10), (11, .int x11)]) rfl d_MD_take_208 ?_
      refine j_iload_n C 4 rfl rfl d_MD_take_210 ?_
      refine j_aload_n C 1 rfl rfl d_MD_take_211 ?_
      refine g_MD_got C (List.mem_cons_of_mem _ wd_4_54) d_MD_take_212 ?_
      refine j_isub C d_MD_take_215 ?_
      refine j_aload_n C 1 rfl rfl d_MD_take_216 ?_
      refine g_MD_gOf C (List.mem_cons_of_mem _ wd_4_33) d_MD_take_217 ?_
      refine j_iload C 8 rfl d_MD_take_220 ?_
      refine la_m_gOf C g203 d_MD_take_222 ?_
      refine j_icmp_ge C d_MD_take_223 rfl (fun c223 => ?_) (fun c223 => ?_)
      · have hf := o_it c223 hf
        refine j_aload_n C 1 rfl rfl d_MD_take_235 ?_
        refine g_MD_gOf C (List.mem_cons_of_mem _ wd_4_33) d_MD_take_236 ?_
        refine j_iload C 8 rfl d_MD_take_239 ?_
        refine la_m_gOf C g203 d_MD_take_241 ?_
        obtain ⟨x13_242, ex13_242, hf⟩ := o_nmI hf
        refine j_topI ex13_242 ?_
        refine j_istore C (by decide) (loc' := [(13, .int x13_242), (12, .int (0 : Int32)), (0, .ref (ad 18)), (1, .int x1), (2, .int x2), (3, .int x3), (4, .long x4), (6, .long x6), (8, .long x8), (10, .int x10), (11, .int x11)]) rfl d_MD_take_242 ?_
        refine j_sub [2, 3, 4, 5, 6, 7, 8, 9, 1, 0] rfl ?_
        exact w_MD_take_L244 C Rt hk99 FU x1 x2 x3 x4 x6 x8 x10 (0 : Int32) x13_242 σ191 hf
      · have hf := o_if c223 hf
        refine j_iload_n C 4 rfl rfl d_MD_take_226 ?_
        refine j_aload_n C 1 rfl rfl d_MD_take_227 ?_
        refine g_MD_got C (List.mem_cons_of_mem _ wd_4_54) d_MD_take_228 ?_
        refine j_isub C d_MD_take_231 ?_
        refine j_goto C d_MD_take_232 rfl ?_
        obtain ⟨x13_242, ex13_242, hf⟩ := o_nmI hf
        refine j_topI ex13_242 ?_
        refine j_istore C (by decide) (loc' := [(13, .int x13_242), (12, .int (0 : Int32)), (0, .ref (ad 18)), (1, .int x1), (2, .int x2), (3, .int x3), (4, .long x4), (6, .long x6), (8, .long x8), (10, .int x10), (11, .int x11)]) rfl d_MD_take_242 ?_
        refine j_sub [2, 3, 4, 5, 6, 7, 8, 9, 1, 0] rfl ?_
        exact w_MD_take_L244 C Rt hk99 FU x1 x2 x3 x4 x6 x8 x10 (0 : Int32) x13_242 σ191 hf
def MD_take_c158 (kb99 : Int32 → Int32 → Int32 → Int64 → Int64 → Int64 → Int32 → ST → Option (ST)) (x1 : Int32) (x2 : Int32) (x3 : Int32) (x4 : Int64) (x6 : Int64) (x8 : Int64) (x10 : Int32) (s0 : Int32) (σ : ST) : Option (ST) :=
  if s0 = 0 then (MD_take_c191 kb99 x1 x2 x3 x4 x6 x8 x10 s0 x10 (0 : Int32) σ)
  else (if x10 < 0 ∨ 12 ≤ x10.toNatClampNeg then none else
  bd1 (MD_fundsIn (gA σ 16 x10.toNatClampNeg) x2 σ) fun r180 =>
  if r180 = 0 then (MD_take_c191 kb99 x1 x2 x3 x4 x6 x8 x10 s0 x10 (1 : Int32) σ)
  else (MD_take_c191 kb99 x1 x2 x3 x4 x6 x8 x10 s0 x10 (0 : Int32) σ))
set_option maxRecDepth 100000 in
set_option maxHeartbeats 4000000 in
theorem w_MD_take_c158 {X : JX} (C : JC X l D (ttf cs) eE b_MD_take "TollLedgerModel" 16 (Cond.code y_MD_take b_MD_take 16 r_MD_take :: BIG) 5 118 0 0) {res : ST} (Rt : JR X (wfm ad cs) 0 0 (PV res) r_MD_take "take") {kb99 : Int32 → Int32 → Int32 → Int64 → Int64 → Int64 → Int32 → ST → Option (ST)} (hk99 : ∀ (x1 : Int32) (x2 : Int32) (x3 : Int32) (x4 : Int64) (x6 : Int64) (x8 : Int64) (x10 : Int32) (σ : ST), kb99 x1 x2 x3 x4 x6 x8 x10 σ = some res → J (wfm ad cs) X 16 0 0 σ 99 [(0, .ref (ad 18)), (1, .int x1), (2, .int x2), (3, .int x3), (4, .long x4), (6, .long x6), (8, .long x8), (10, .int x10)] []) (x1 : Int32) (x2 : Int32) (x3 : Int32) (x4 : Int64) (x6 : Int64) (x8 : Int64) (x10 : Int32) (s0 : Int32) (σ : ST) (hf : MD_take_c158 kb99 x1 x2 x3 x4 x6 x8 x10 s0 σ = some res) : J (wfm ad cs) X 16 0 0 σ 158 [(0, .ref (ad 18)), (1, .int x1), (2, .int x2), (3, .int x3), (4, .long x4), (6, .long x6), (8, .long x8), (10, .int x10)] [.int s0] := by
  unfold MD_take_c158 at hf
  refine j_istore C (by decide) (loc' := [(11, .int s0), (0, .ref (ad 18)), (1, .int x1), (2, .int x2), (3, .int x3), (4, .long x4), (6, .long x6), (8, .long x8), (10, .int x10)]) rfl d_MD_take_158 ?_
  refine j_aload_n C 1 rfl rfl d_MD_take_160 ?_
  refine g_MD_gone C (List.mem_cons_of_mem _ wd_4_52) d_MD_take_161 ?_
  refine j_iload C 8 rfl d_MD_take_164 ?_
  refine j_iload C 0 rfl d_MD_take_166 ?_
  refine j_if_eq C d_MD_take_168 rfl (fun c168 => ?_) (fun c168 => ?_)
  · have hf := o_it c168 hf
    refine j_iconst C (v := 0) (by decide) d_MD_take_190 ?_
    refine j_sub [1, 2, 3, 4, 5, 6, 7, 8, 0] rfl ?_
    exact w_MD_take_c191 C Rt hk99 x1 x2 x3 x4 x6 x8 x10 s0 x10 (0 : Int32) σ hf
  · have hf := o_if c168 hf
    refine j_aload_n C 1 rfl rfl d_MD_take_171 ?_
    refine j_aload_n C 1 rfl rfl d_MD_take_172 ?_
    refine g_MD_ownerOf C (List.mem_cons_of_mem _ wd_4_29) d_MD_take_173 ?_
    refine j_iload C 8 rfl d_MD_take_176 ?_
    obtain ⟨g178, hf⟩ := o_gn hf
    refine la_m_ownerOf C g178 d_MD_take_178 ?_
    refine j_iload_n C 3 rfl rfl d_MD_take_179 ?_
    obtain ⟨r180, h180, hf⟩ := o_b1 hf
    refine j_callV (ci := 10) (Cn := "TollLedgerModel") (T := T_MD) (N := 39) C [.int (gA σ 16 x10.toNatClampNeg), .int x2] [.int x10, .ref (ad 41)] (m_MD_fundsIn _ _ _ _ _ (gA σ 16 x10.toNatClampNeg) x2 σ h180) (gdV wd_4_160 wd_4_162 wp_18 wd_1_11 wc_MD_fundsIn) hy_MD_fundsIn rfl ⟨18, rfl⟩ rfl rfl (by decide) (by decide) (by decide) (by decide) (Nat.le_of_ble_eq_true rfl) d_MD_take_180 (j_kI (r := r180) (σ1 := σ) ?_)
    refine j_if_ne C d_MD_take_183 rfl (fun c183 => ?_) (fun c183 => ?_)
    · have hf := o_if c183 hf
      refine j_iconst C (v := 0) (by decide) d_MD_take_190 ?_
      refine j_sub [1, 2, 3, 4, 5, 6, 7, 8, 0] rfl ?_
      exact w_MD_take_c191 C Rt hk99 x1 x2 x3 x4 x6 x8 x10 s0 x10 (0 : Int32) σ hf
    · have hf := o_it c183 hf
      refine j_iconst C (v := 1) (by decide) d_MD_take_186 ?_
      refine j_goto C d_MD_take_187 rfl ?_
      refine j_sub [1, 2, 3, 4, 5, 6, 7, 8, 0] rfl ?_
      exact w_MD_take_c191 C Rt hk99 x1 x2 x3 x4 x6 x8 x10 s0 x10 (1 : Int32) σ hf
def MD_take_b99 (kb99 : Int32 → Int32 → Int32 → Int64 → Int64 → Int64 → Int32 → ST → Option (ST)) (x1 : Int32) (x2 : Int32) (x3 : Int32) (x4 : Int64) (x6 : Int64) (x8 : Int64) (x10 : Int32) (σ : ST) : Option (ST) :=
  if x3 ≤ (gI σ 32) then (some σ)
  else (if x10 < 0 then (some σ)
  else (if x10 < 0 ∨ 12 ≤ x10.toNatClampNeg then none else
  nmS (sA σ 29 x10.toNatClampNeg (1 : Int32)) fun σ119 =>
  if (lg_cmp x8 (0 : Int64)) < 0 then (MD_take_c158 kb99 x1 x2 x3 x4 x6 x8 x10 (1 : Int32) σ119)
  else (if 0 < (lg_cmp ((gA σ119 19 x10.toNatClampNeg).toInt64 * x4) (x6 * (gA σ119 20 x10.toNatClampNeg).toInt64)) then (MD_take_c158 kb99 x1 x2 x3 x4 x6 x8 x10 (0 : Int32) σ119)
  else (MD_take_c158 kb99 x1 x2 x3 x4 x6 x8 x10 (1 : Int32) σ119))))
set_option maxRecDepth 100000 in
set_option maxHeartbeats 4000000 in
theorem w_MD_take_b99 {X : JX} (C : JC X l D (ttf cs) eE b_MD_take "TollLedgerModel" 16 (Cond.code y_MD_take b_MD_take 16 r_MD_take :: BIG) 5 118 0 0) {res : ST} (Rt : JR X (wfm ad cs) 0 0 (PV res) r_MD_take "take") {kb99 : Int32 → Int32 → Int32 → Int64 → Int64 → Int64 → Int32 → ST → Option (ST)} (hk99 : ∀ (x1 : Int32) (x2 : Int32) (x3 : Int32) (x4 : Int64) (x6 : Int64) (x8 : Int64) (x10 : Int32) (σ : ST), kb99 x1 x2 x3 x4 x6 x8 x10 σ = some res → J (wfm ad cs) X 16 0 0 σ 99 [(0, .ref (ad 18)), (1, .int x1), (2, .int x2), (3, .int x3), (4, .long x4), (6, .long x6), (8, .long x8), (10, .int x10)] []) (x1 : Int32) (x2 : Int32) (x3 : Int32) (x4 : Int64) (x6 : Int64) (x8 : Int64) (x10 : Int32) (σ : ST) (hf : MD_take_b99 kb99 x1 x2 x3 x4 x6 x8 x10 σ = some res) : J (wfm ad cs) X 16 0 0 σ 99 [(0, .ref (ad 18)), (1, .int x1), (2, .int x2), (3, .int x3), (4, .long x4), (6, .long x6), (8, .long x8), (10, .int x10)] [] := by
  unfold MD_take_b99 at hf
  refine j_aload_n C 0 rfl rfl d_MD_take_99 ?_
  refine g_MD_got C (List.mem_cons_of_mem _ wd_4_54) d_MD_take_100 ?_
  refine j_iload_n C 3 rfl rfl d_MD_take_103 ?_
  refine j_icmp_ge C d_MD_take_104 rfl (fun c104 => ?_) (fun c104 => ?_)
  · have hf := o_it c104 hf
    have hf := Option.some.inj hf
    subst hf
    exact j_vret C Rt (Nat.zero_le _) (Nat.zero_le _) d_MD_take_341 ⟨rfl, rfl⟩
  · have hf := o_if c104 hf
    refine j_iload C 7 rfl d_MD_take_107 ?_
    refine j_if_lt C d_MD_take_109 rfl (fun c109 => ?_) (fun c109 => ?_)
    · have hf := o_it c109 hf
      have hf := Option.some.inj hf
      subst hf
      exact j_vret C Rt (Nat.zero_le _) (Nat.zero_le _) d_MD_take_341 ⟨rfl, rfl⟩
    · have hf := o_if c109 hf
      refine j_aload_n C 0 rfl rfl d_MD_take_112 ?_
      refine g_MD_seen C (List.mem_cons_of_mem _ wd_4_51) d_MD_take_113 ?_
      refine j_iload C 7 rfl d_MD_take_116 ?_
      refine j_iconst C (v := 1) (by decide) d_MD_take_118 ?_
      obtain ⟨g119, hf⟩ := o_gn hf
      obtain ⟨σ119, eσ119, hf⟩ := o_nmS hf
      refine sa_m_seen C (by decide) g119 eσ119 d_MD_take_119 ?_
      refine j_lload C 6 rfl d_MD_take_120 ?_
      refine j_lconst C (v := 0) (by decide) d_MD_take_122 ?_
      refine j_lcmp C d_MD_take_123 ?_
      refine j_if_lt C d_MD_take_124 rfl (fun c124 => ?_) (fun c124 => ?_)
      · have hf := o_it c124 hf
        refine j_iconst C (v := 1) (by decide) d_MD_take_153 ?_
        refine j_goto C d_MD_take_154 rfl ?_
        exact w_MD_take_c158 C Rt hk99 x1 x2 x3 x4 x6 x8 x10 (1 : Int32) σ119 hf
      · have hf := o_if c124 hf
        refine j_aload_n C 0 rfl rfl d_MD_take_127 ?_
        refine g_MD_wOf C (List.mem_cons_of_mem _ wd_4_32) d_MD_take_128 ?_
        refine j_iload C 7 rfl d_MD_take_131 ?_
        refine la_m_wOf C g119 d_MD_take_133 ?_
        refine j_i2l C d_MD_take_134 ?_
        refine j_lload C 4 rfl d_MD_take_135 ?_
        refine j_lmul C d_MD_take_137 ?_
        refine j_lload C 5 rfl d_MD_take_138 ?_
        refine j_aload_n C 0 rfl rfl d_MD_take_140 ?_
        refine g_MD_gOf C (List.mem_cons_of_mem _ wd_4_33) d_MD_take_141 ?_
        refine j_iload C 7 rfl d_MD_take_144 ?_
        refine la_m_gOf C g119 d_MD_take_146 ?_
        refine j_i2l C d_MD_take_147 ?_
        refine j_lmul C d_MD_take_148 ?_
        refine j_lcmp C d_MD_take_149 ?_
        refine j_if_gt C d_MD_take_150 rfl (fun c150 => ?_) (fun c150 => ?_)
        · have hf := o_it c150 hf
          refine j_iconst C (v := 0) (by decide) d_MD_take_157 ?_
          exact w_MD_take_c158 C Rt hk99 x1 x2 x3 x4 x6 x8 x10 (0 : Int32) σ119 hf
        · have hf := o_if c150 hf
          refine j_iconst C (v := 1) (by decide) d_MD_take_153 ?_
          refine j_goto C d_MD_take_154 rfl ?_
          exact w_MD_take_c158 C Rt hk99 x1 x2 x3 x4 x6 x8 x10 (1 : Int32) σ119 hf
def MD_take_L99 : Nat → Int32 → Int32 → Int32 → Int64 → Int64 → Int64 → Int32 → ST → Option (ST)
  | 0, _, _, _, _, _, _, _, _ => none
  | N + 1, x1, x2, x3, x4, x6, x8, x10, σ => MD_take_b99 (fun x1 x2 x3 x4 x6 x8 x10 σ => MD_take_L99 N x1 x2 x3 x4 x6 x8 x10 σ) x1 x2 x3 x4 x6 x8 x10 σ
theorem w_MD_take_L99 {X : JX} (C : JC X l D (ttf cs) eE b_MD_take "TollLedgerModel" 16 (Cond.code y_MD_take b_MD_take 16 r_MD_take :: BIG) 5 118 0 0) {res : ST} (Rt : JR X (wfm ad cs) 0 0 (PV res) r_MD_take "take")  (N : Nat) (x1 : Int32) (x2 : Int32) (x3 : Int32) (x4 : Int64) (x6 : Int64) (x8 : Int64) (x10 : Int32) (σ : ST) (hf : MD_take_L99 N x1 x2 x3 x4 x6 x8 x10 σ = some res) : J (wfm ad cs) X 16 0 0 σ 99 [(0, .ref (ad 18)), (1, .int x1), (2, .int x2), (3, .int x3), (4, .long x4), (6, .long x6), (8, .long x8), (10, .int x10)] [] := by
  induction N generalizing x1 x2 x3 x4 x6 x8 x10 σ with
  | zero => exact nomatch hf
  | succ N ih => exact w_MD_take_b99 C Rt  (fun x1 x2 x3 x4 x6 x8 x10 σ h => ih x1 x2 x3 x4 x6 x8 x10 σ h) x1 x2 x3 x4 x6 x8 x10 σ hf
def MD_take_b66 (kb66 : Int32 → Int32 → Int32 → Int64 → Int64 → Int64 → Int32 → ST → Option (ST)) (x1 : Int32) (x2 : Int32) (x3 : Int32) (x4 : Int64) (x6 : Int64) (x8 : Int64) (x10 : Int32) (σ : ST) : Option (ST) :=
  if (6 : Int32) ≤ x10 then (bd1 (MD_nextOf x1 x2 (gI σ 25) σ) fun r94 =>
  MD_take_L99 FU x1 x2 x3 x4 x6 x8 r94 σ)
  else (if x10 < 0 ∨ 6 ≤ x10.toNatClampNeg then none else
  nmS (sV σ x10.toNatClampNeg (0 : Int64)) fun σ80 =>
  kb66 x1 x2 x3 x4 x6 x8 (x10 + 1) σ80)
set_option maxRecDepth 100000 in
set_option maxHeartbeats 4000000 in
theorem w_MD_take_b66 {X : JX} (C : JC X l D (ttf cs) eE b_MD_take "TollLedgerModel" 16 (Cond.code y_MD_take b_MD_take 16 r_MD_take :: BIG) 5 118 0 0) {res : ST} (Rt : JR X (wfm ad cs) 0 0 (PV res) r_MD_take "take") {kb66 : Int32 → Int32 → Int32 → Int64 → Int64 → Int64 → Int32 → ST → Option (ST)} (hk66 : ∀ (x1 : Int32) (x2 : Int32) (x3 : Int32) (x4 : Int64) (x6 : Int64) (x8 : Int64) (x10 : Int32) (σ : ST), kb66 x1 x2 x3 x4 x6 x8 x10 σ = some res → J (wfm ad cs) X 16 0 0 σ 66 [(0, .ref (ad 18)), (1, .int x1), (2, .int x2), (3, .int x3), (4, .long x4), (6, .long x6), (8, .long x8), (10, .int x10)] []) (x1 : Int32) (x2 : Int32) (x3 : Int32) (x4 : Int64) (x6 : Int64) (x8 : Int64) (x10 : Int32) (σ : ST) (hf : MD_take_b66 kb66 x1 x2 x3 x4 x6 x8 x10 σ = some res) : J (wfm ad cs) X 16 0 0 σ 66 [(0, .ref (ad 18)), (1, .int x1), (2, .int x2), (3, .int x3), (4, .long x4), (6, .long x6), (8, .long x8), (10, .int x10)] [] := by
  unfold MD_take_b66 at hf
  refine j_iload C 7 rfl d_MD_take_66 ?_
  refine j_bipush C (v := 6) (by decide) d_MD_take_68 ?_
  refine j_icmp_ge C d_MD_take_70 rfl (fun c70 => ?_) (fun c70 => ?_)
  · have hf := o_it c70 hf
    refine j_aload_n C 0 rfl rfl d_MD_take_87 ?_
    refine j_iload_n C 1 rfl rfl d_MD_take_88 ?_
    refine j_iload_n C 2 rfl rfl d_MD_take_89 ?_
    refine j_aload_n C 0 rfl rfl d_MD_take_90 ?_
    refine g_MD_me C (List.mem_cons_of_mem _ wd_4_42) d_MD_take_91 ?_
    obtain ⟨r94, h94, hf⟩ := o_b1 hf
    refine j_callV (ci := 10) (Cn := "TollLedgerModel") (T := T_MD) (N := 39) C [.int x1, .int x2, .int (gI σ 25)] [] (m_MD_nextOf _ _ _ _ _ x1 x2 (gI σ 25) σ h94) (gdV wd_4_217 wd_4_219 wp_25 wd_1_11 wc_MD_nextOf) hy_MD_nextOf rfl ⟨18, rfl⟩ rfl rfl (by decide) (by decide) (by decide) (by decide) (Nat.le_of_ble_eq_true rfl) d_MD_take_94 (j_kI (r := r94) (σ1 := σ) ?_)
    refine j_istore C (by decide) (loc' := [(10, .int r94), (0, .ref (ad 18)), (1, .int x1), (2, .int x2), (3, .int x3), (4, .long x4), (6, .long x6), (8, .long x8)]) rfl d_MD_take_97 ?_
    refine j_sub [1, 2, 3, 4, 5, 6, 7, 0] rfl ?_
    exact w_MD_take_L99 C Rt  FU x1 x2 x3 x4 x6 x8 r94 σ hf
  · have hf := o_if c70 hf
    refine j_aload_n C 0 rfl rfl d_MD_take_73 ?_
    refine g_MD_spent C (List.mem_cons_of_mem _ wd_4_53) d_MD_take_74 ?_
    refine j_iload C 7 rfl d_MD_take_77 ?_
    refine j_lconst C (v := 0) (by decide) d_MD_take_79 ?_
    obtain ⟨g80, hf⟩ := o_gn hf
    obtain ⟨σ80, eσ80, hf⟩ := o_nmS hf
    refine sa_m_spent C g80 eσ80 d_MD_take_80 ?_
    refine j_iinc C 7 rfl (v := (x10 + 1)) (inc_p1 _) (by decide) (loc' := [(10, .int (x10 + 1)), (0, .ref (ad 18)), (1, .int x1), (2, .int x2), (3, .int x3), (4, .long x4), (6, .long x6), (8, .long x8)]) rfl d_MD_take_81 ?_
    refine j_goto C d_MD_take_84 rfl ?_
    refine j_sub [1, 2, 3, 4, 5, 6, 7, 0] rfl ?_
    exact hk66 x1 x2 x3 x4 x6 x8 (x10 + 1) σ80 hf
def MD_take_L66 : Nat → Int32 → Int32 → Int32 → Int64 → Int64 → Int64 → Int32 → ST → Option (ST)
  | 0, _, _, _, _, _, _, _, _ => none
  | N + 1, x1, x2, x3, x4, x6, x8, x10, σ => MD_take_b66 (fun x1 x2 x3 x4 x6 x8 x10 σ => MD_take_L66 N x1 x2 x3 x4 x6 x8 x10 σ) x1 x2 x3 x4 x6 x8 x10 σ
theorem w_MD_take_L66 {X : JX} (C : JC X l D (ttf cs) eE b_MD_take "TollLedgerModel" 16 (Cond.code y_MD_take b_MD_take 16 r_MD_take :: BIG) 5 118 0 0) {res : ST} (Rt : JR X (wfm ad cs) 0 0 (PV res) r_MD_take "take")  (N : Nat) (x1 : Int32) (x2 : Int32) (x3 : Int32) (x4 : Int64) (x6 : Int64) (x8 : Int64) (x10 : Int32) (σ : ST) (hf : MD_take_L66 N x1 x2 x3 x4 x6 x8 x10 σ = some res) : J (wfm ad cs) X 16 0 0 σ 66 [(0, .ref (ad 18)), (1, .int x1), (2, .int x2), (3, .int x3), (4, .long x4), (6, .long x6), (8, .long x8), (10, .int x10)] [] := by
  induction N generalizing x1 x2 x3 x4 x6 x8 x10 σ with
  | zero => exact nomatch hf
  | succ N ih => exact w_MD_take_b66 C Rt  (fun x1 x2 x3 x4 x6 x8 x10 σ h => ih x1 x2 x3 x4 x6 x8 x10 σ h) x1 x2 x3 x4 x6 x8 x10 σ hf
def MD_take_b18 (kb18 : Int32 → Int32 → Int32 → Int64 → Int64 → Int64 → Int32 → ST → Option (ST)) (x1 : Int32) (x2 : Int32) (x3 : Int32) (x4 : Int64) (x6 : Int64) (x8 : Int64) (x10 : Int32) (σ : ST) : Option (ST) :=
  if (12 : Int32) ≤ x10 then (MD_take_L66 FU x1 x2 x3 x4 x6 x8 (0 : Int32) σ)
  else (if x10 < 0 ∨ 12 ≤ x10.toNatClampNeg then none else
  nmS (sA σ 27 x10.toNatClampNeg (0 : Int32)) fun σ32 =>
  nmS (sA σ32 28 x10.toNatClampNeg (0 : Int32)) fun σ40 =>
  nmS (sA σ40 29 x10.toNatClampNeg (0 : Int32)) fun σ48 =>
  nmS (sA σ48 30 x10.toNatClampNeg (0 : Int32)) fun σ56 =>
  kb18 x1 x2 x3 x4 x6 x8 (x10 + 1) σ56)
set_option maxRecDepth 100000 in
set_option maxHeartbeats 4000000 in
theorem w_MD_take_b18 {X : JX} (C : JC X l D (ttf cs) eE b_MD_take "TollLedgerModel" 16 (Cond.code y_MD_take b_MD_take 16 r_MD_take :: BIG) 5 118 0 0) {res : ST} (Rt : JR X (wfm ad cs) 0 0 (PV res) r_MD_take "take") {kb18 : Int32 → Int32 → Int32 → Int64 → Int64 → Int64 → Int32 → ST → Option (ST)} (hk18 : ∀ (x1 : Int32) (x2 : Int32) (x3 : Int32) (x4 : Int64) (x6 : Int64) (x8 : Int64) (x10 : Int32) (σ : ST), kb18 x1 x2 x3 x4 x6 x8 x10 σ = some res → J (wfm ad cs) X 16 0 0 σ 18 [(0, .ref (ad 18)), (1, .int x1), (2, .int x2), (3, .int x3), (4, .long x4), (6, .long x6), (8, .long x8), (10, .int x10)] []) (x1 : Int32) (x2 : Int32) (x3 : Int32) (x4 : Int64) (x6 : Int64) (x8 : Int64) (x10 : Int32) (σ : ST) (hf : MD_take_b18 kb18 x1 x2 x3 x4 x6 x8 x10 σ = some res) : J (wfm ad cs) X 16 0 0 σ 18 [(0, .ref (ad 18)), (1, .int x1), (2, .int x2), (3, .int x3), (4, .long x4), (6, .long x6), (8, .long x8), (10, .int x10)] [] := by
  unfold MD_take_b18 at hf
  refine j_iload C 7 rfl d_MD_take_18 ?_
  refine j_bipush C (v := 12) (by decide) d_MD_take_20 ?_
  refine j_icmp_ge C d_MD_take_22 rfl (fun c22 => ?_) (fun c22 => ?_)
  · have hf := o_it c22 hf
    refine j_iconst C (v := 0) (by decide) d_MD_take_63 ?_
    refine j_istore C (by decide) (loc' := [(10, .int (0 : Int32)), (0, .ref (ad 18)), (1, .int x1), (2, .int x2), (3, .int x3), (4, .long x4), (6, .long x6), (8, .long x8)]) rfl d_MD_take_64 ?_
    refine j_sub [1, 2, 3, 4, 5, 6, 7, 0] rfl ?_
    exact w_MD_take_L66 C Rt  FU x1 x2 x3 x4 x6 x8 (0 : Int32) σ hf
  · have hf := o_if c22 hf
    refine j_aload_n C 0 rfl rfl d_MD_take_25 ?_
    refine g_MD_taken C (List.mem_cons_of_mem _ wd_4_49) d_MD_take_26 ?_
    refine j_iload C 7 rfl d_MD_take_29 ?_
    refine j_iconst C (v := 0) (by decide) d_MD_take_31 ?_
    obtain ⟨g32, hf⟩ := o_gn hf
    obtain ⟨σ32, eσ32, hf⟩ := o_nmS hf
    refine sa_m_taken C g32 eσ32 d_MD_take_32 ?_
    refine j_aload_n C 0 rfl rfl d_MD_take_33 ?_
    refine g_MD_prices C (List.mem_cons_of_mem _ wd_4_50) d_MD_take_34 ?_
    refine j_iload C 7 rfl d_MD_take_37 ?_
    refine j_iconst C (v := 0) (by decide) d_MD_take_39 ?_
    obtain ⟨σ40, eσ40, hf⟩ := o_nmS hf
    refine sa_m_prices C g32 eσ40 d_MD_take_40 ?_
    refine j_aload_n C 0 rfl rfl d_MD_take_41 ?_
    refine g_MD_seen C (List.mem_cons_of_mem _ wd_4_51) d_MD_take_42 ?_
    refine j_iload C 7 rfl d_MD_take_45 ?_
    refine j_iconst C (v := 0) (by decide) d_MD_take_47 ?_
    obtain ⟨σ48, eσ48, hf⟩ := o_nmS hf
    refine sa_m_seen C (by decide) g32 eσ48 d_MD_take_48 ?_
    refine j_aload_n C 0 rfl rfl d_MD_take_49 ?_
    refine g_MD_gone C (List.mem_cons_of_mem _ wd_4_52) d_MD_take_50 ?_
    refine j_iload C 7 rfl d_MD_take_53 ?_
    refine j_iconst C (v := 0) (by decide) d_MD_take_55 ?_
    obtain ⟨σ56, eσ56, hf⟩ := o_nmS hf
    refine sa_m_gone C (by decide) g32 eσ56 d_MD_take_56 ?_
    refine j_iinc C 7 rfl (v := (x10 + 1)) (inc_p1 _) (by decide) (loc' := [(10, .int (x10 + 1)), (0, .ref (ad 18)), (1, .int x1), (2, .int x2), (3, .int x3), (4, .long x4), (6, .long x6), (8, .long x8)]) rfl d_MD_take_57 ?_
    refine j_goto C d_MD_take_60 rfl ?_
    refine j_sub [1, 2, 3, 4, 5, 6, 7, 0] rfl ?_
    exact hk18 x1 x2 x3 x4 x6 x8 (x10 + 1) σ56 hf
def MD_take_L18 : Nat → Int32 → Int32 → Int32 → Int64 → Int64 → Int64 → Int32 → ST → Option (ST)
  | 0, _, _, _, _, _, _, _, _ => none
  | N + 1, x1, x2, x3, x4, x6, x8, x10, σ => MD_take_b18 (fun x1 x2 x3 x4 x6 x8 x10 σ => MD_take_L18 N x1 x2 x3 x4 x6 x8 x10 σ) x1 x2 x3 x4 x6 x8 x10 σ
theorem w_MD_take_L18 {X : JX} (C : JC X l D (ttf cs) eE b_MD_take "TollLedgerModel" 16 (Cond.code y_MD_take b_MD_take 16 r_MD_take :: BIG) 5 118 0 0) {res : ST} (Rt : JR X (wfm ad cs) 0 0 (PV res) r_MD_take "take")  (N : Nat) (x1 : Int32) (x2 : Int32) (x3 : Int32) (x4 : Int64) (x6 : Int64) (x8 : Int64) (x10 : Int32) (σ : ST) (hf : MD_take_L18 N x1 x2 x3 x4 x6 x8 x10 σ = some res) : J (wfm ad cs) X 16 0 0 σ 18 [(0, .ref (ad 18)), (1, .int x1), (2, .int x2), (3, .int x3), (4, .long x4), (6, .long x6), (8, .long x8), (10, .int x10)] [] := by
  induction N generalizing x1 x2 x3 x4 x6 x8 x10 σ with
  | zero => exact nomatch hf
  | succ N ih => exact w_MD_take_b18 C Rt  (fun x1 x2 x3 x4 x6 x8 x10 σ h => ih x1 x2 x3 x4 x6 x8 x10 σ h) x1 x2 x3 x4 x6 x8 x10 σ hf
def MD_take (x1 : Int32) (x2 : Int32) (x3 : Int32) (x4 : Int64) (x6 : Int64) (x8 : Int64) (σ : ST) : Option (ST) :=
  nmS (sI σ 32 (0 : Int32)) fun σ2 =>
  nmS (sL σ2 0 (0 : Int64)) fun σ7 =>
  nmS (sL σ7 1 (0 : Int64)) fun σ12 =>
  MD_take_L18 FU x1 x2 x3 x4 x6 x8 (0 : Int32) σ12
set_option maxRecDepth 100000 in
set_option maxHeartbeats 4000000 in
theorem m_MD_take (l : Launch) (D : va_G) (ad : Nat → Nat) (cs : Nat → ClassId) (eE : Nat × Nat) (x1 : Int32) (x2 : Int32) (x3 : Int32) (x4 : Int64) (x6 : Int64) (x8 : Int64) (σ : ST) {res : ST} (hf : MD_take x1 x2 x3 x4 x6 x8 σ = some res) : MS l y_MD_take (Cond.code y_MD_take b_MD_take 16 r_MD_take :: BIG) 5 118 0 0 (wfm ad cs) D (ttf cs) eE [.ref (ad 18), .int x1, .int x2, .int x3, .long x4, .long x6, .long x8] σ (PV res) := by
  refine MS.of (cc := b_MD_take) (maxL := 16) (ret := r_MD_take) (by decide) rfl (Nat.le_of_ble_eq_true rfl) (loc := [(0, .ref (ad 18)), (1, .int x1), (2, .int x2), (3, .int x3), (4, .long x4), (6, .long x6), (8, .long x8)]) rfl (fun X C Rt => ?_)
  unfold MD_take at hf
  refine j_aload_n C 0 rfl rfl d_MD_take_0 ?_
  refine j_iconst C (v := 0) (by decide) d_MD_take_1 ?_
  obtain ⟨σ2, eσ2, hf⟩ := o_nmS hf
  refine p_MD_got C eσ2 (List.mem_cons_of_mem _ wd_4_54) d_MD_take_2 ?_
  refine j_aload_n C 0 rfl rfl d_MD_take_5 ?_
  refine j_lconst C (v := 0) (by decide) d_MD_take_6 ?_
  obtain ⟨σ7, eσ7, hf⟩ := o_nmS hf
  refine p_MD_priceSum C eσ7 (List.mem_cons_of_mem _ wd_4_55) d_MD_take_7 ?_
  refine j_aload_n C 0 rfl rfl d_MD_take_10 ?_
  refine j_lconst C (v := 0) (by decide) d_MD_take_11 ?_
  obtain ⟨σ12, eσ12, hf⟩ := o_nmS hf
  refine p_MD_costSum C eσ12 (List.mem_cons_of_mem _ wd_4_56) d_MD_take_12 ?_
  refine j_iconst C (v := 0) (by decide) d_MD_take_15 ?_
  refine j_istore C (by decide) (loc' := [(10, .int (0 : Int32)), (0, .ref (ad 18)), (1, .int x1), (2, .int x2), (3, .int x3), (4, .long x4), (6, .long x6), (8, .long x8)]) rfl d_MD_take_16 ?_
  refine j_sub [1, 2, 3, 4, 5, 6, 7, 0] rfl ?_
  exact w_MD_take_L18 C Rt  FU x1 x2 x3 x4 x6 x8 (0 : Int32) σ12 hf
theorem d_MD_place_0 : decode b_MD_place 0 = .ok (.aload_n 0, 1) := by decide +kernel
theorem d_MD_place_1 : decode b_MD_place 1 = .ok (.dup, 1) := by decide +kernel
theorem d_MD_place_2 : decode b_MD_place 2 = .ok (.getfield 218, 3) := by decide +kernel
theorem d_MD_place_5 : decode b_MD_place 5 = .ok (.iconst 1, 1) := by decide +kernel
theorem d_MD_place_6 : decode b_MD_place 6 = .ok (.iadd, 1) := by decide +kernel
theorem d_MD_place_7 : decode b_MD_place 7 = .ok (.putfield 218, 3) := by decide +kernel
theorem d_MD_place_10 : decode b_MD_place 10 = .ok (.aload_n 0, 1) := by decide +kernel
theorem d_MD_place_11 : decode b_MD_place 11 = .ok (.getfield 32, 3) := by decide +kernel
theorem d_MD_place_14 : decode b_MD_place 14 = .ok (.aload_n 0, 1) := by decide +kernel
theorem d_MD_place_15 : decode b_MD_place 15 = .ok (.getfield 110, 3) := by decide +kernel
theorem d_MD_place_18 : decode b_MD_place 18 = .ok (.aload_n 0, 1) := by decide +kernel
theorem d_MD_place_19 : decode b_MD_place 19 = .ok (.getfield 218, 3) := by decide +kernel
theorem d_MD_place_22 : decode b_MD_place 22 = .ok (.iastore, 1) := by decide +kernel
theorem d_MD_place_23 : decode b_MD_place 23 = .ok (.aload_n 0, 1) := by decide +kernel
theorem d_MD_place_24 : decode b_MD_place 24 = .ok (.getfield 35, 3) := by decide +kernel
theorem d_MD_place_27 : decode b_MD_place 27 = .ok (.aload_n 0, 1) := by decide +kernel
theorem d_MD_place_28 : decode b_MD_place 28 = .ok (.getfield 110, 3) := by decide +kernel
theorem d_MD_place_31 : decode b_MD_place 31 = .ok (.aload_n 0, 1) := by decide +kernel
theorem d_MD_place_32 : decode b_MD_place 32 = .ok (.getfield 68, 3) := by decide +kernel
theorem d_MD_place_35 : decode b_MD_place 35 = .ok (.iastore, 1) := by decide +kernel
theorem d_MD_place_36 : decode b_MD_place 36 = .ok (.aload_n 0, 1) := by decide +kernel
theorem d_MD_place_37 : decode b_MD_place 37 = .ok (.getfield 38, 3) := by decide +kernel
theorem d_MD_place_40 : decode b_MD_place 40 = .ok (.aload_n 0, 1) := by decide +kernel
theorem d_MD_place_41 : decode b_MD_place 41 = .ok (.getfield 110, 3) := by decide +kernel
theorem d_MD_place_44 : decode b_MD_place 44 = .ok (.iload_n 1, 1) := by decide +kernel
theorem d_MD_place_45 : decode b_MD_place 45 = .ok (.iastore, 1) := by decide +kernel
theorem d_MD_place_46 : decode b_MD_place 46 = .ok (.aload_n 0, 1) := by decide +kernel
theorem d_MD_place_47 : decode b_MD_place 47 = .ok (.getfield 41, 3) := by decide +kernel
theorem d_MD_place_50 : decode b_MD_place 50 = .ok (.aload_n 0, 1) := by decide +kernel
theorem d_MD_place_51 : decode b_MD_place 51 = .ok (.getfield 110, 3) := by decide +kernel
theorem d_MD_place_54 : decode b_MD_place 54 = .ok (.iload_n 3, 1) := by decide +kernel
theorem d_MD_place_55 : decode b_MD_place 55 = .ok (.iastore, 1) := by decide +kernel
theorem d_MD_place_56 : decode b_MD_place 56 = .ok (.aload_n 0, 1) := by decide +kernel
theorem d_MD_place_57 : decode b_MD_place 57 = .ok (.getfield 44, 3) := by decide +kernel
theorem d_MD_place_60 : decode b_MD_place 60 = .ok (.aload_n 0, 1) := by decide +kernel
theorem d_MD_place_61 : decode b_MD_place 61 = .ok (.getfield 110, 3) := by decide +kernel
theorem d_MD_place_64 : decode b_MD_place 64 = .ok (.iload_n 2, 1) := by decide +kernel
theorem d_MD_place_65 : decode b_MD_place 65 = .ok (.iastore, 1) := by decide +kernel
theorem d_MD_place_66 : decode b_MD_place 66 = .ok (.aload_n 0, 1) := by decide +kernel
theorem d_MD_place_67 : decode b_MD_place 67 = .ok (.getfield 47, 3) := by decide +kernel
theorem d_MD_place_70 : decode b_MD_place 70 = .ok (.aload_n 0, 1) := by decide +kernel
theorem d_MD_place_71 : decode b_MD_place 71 = .ok (.getfield 110, 3) := by decide +kernel
theorem d_MD_place_74 : decode b_MD_place 74 = .ok (.iload 4, 2) := by decide +kernel
theorem d_MD_place_76 : decode b_MD_place 76 = .ok (.iastore, 1) := by decide +kernel
theorem d_MD_place_77 : decode b_MD_place 77 = .ok (.aload_n 0, 1) := by decide +kernel
theorem d_MD_place_78 : decode b_MD_place 78 = .ok (.dup, 1) := by decide +kernel
theorem d_MD_place_79 : decode b_MD_place 79 = .ok (.getfield 110, 3) := by decide +kernel
theorem d_MD_place_82 : decode b_MD_place 82 = .ok (.iconst 1, 1) := by decide +kernel
theorem d_MD_place_83 : decode b_MD_place 83 = .ok (.iadd, 1) := by decide +kernel
theorem d_MD_place_84 : decode b_MD_place 84 = .ok (.putfield 110, 3) := by decide +kernel
theorem d_MD_place_87 : decode b_MD_place 87 = .ok (.return_, 1) := by decide +kernel
def MD_place (x1 : Int32) (x2 : Int32) (x3 : Int32) (x4 : Int32) (σ : ST) : Option (ST) :=
  nmS (sI σ 22 ((gI σ 22) + (1 : Int32))) fun σ7 =>
  if (gI σ7 21) < 0 ∨ 12 ≤ (gI σ7 21).toNatClampNeg then none else
  nmS (sA σ7 15 (gI σ7 21).toNatClampNeg (gI σ7 22)) fun σ22 =>
  if (gI σ22 21) < 0 ∨ 12 ≤ (gI σ22 21).toNatClampNeg then none else
  nmS (sA σ22 16 (gI σ22 21).toNatClampNeg (gI σ22 25)) fun σ35 =>
  if (gI σ35 21) < 0 ∨ 12 ≤ (gI σ35 21).toNatClampNeg then none else
  nmS (sA σ35 17 (gI σ35 21).toNatClampNeg x1) fun σ45 =>
  if (gI σ45 21) < 0 ∨ 12 ≤ (gI σ45 21).toNatClampNeg then none else
  nmS (sA σ45 18 (gI σ45 21).toNatClampNeg x3) fun σ55 =>
  if (gI σ55 21) < 0 ∨ 12 ≤ (gI σ55 21).toNatClampNeg then none else
  nmS (sA σ55 19 (gI σ55 21).toNatClampNeg x2) fun σ65 =>
  if (gI σ65 21) < 0 ∨ 12 ≤ (gI σ65 21).toNatClampNeg then none else
  nmS (sA σ65 20 (gI σ65 21).toNatClampNeg x4) fun σ76 =>
  nmS (sI σ76 21 ((gI σ76 21) + (1 : Int32))) fun σ84 =>
  some σ84
set_option maxRecDepth 100000 in
set_option maxHeartbeats 4000000 in
theorem m_MD_place (l : Launch) (D : va_G) (ad : Nat → Nat) (cs : Nat → ClassId) (eE : Nat × Nat) (x1 : Int32) (x2 : Int32) (x3 : Int32) (x4 : Int32) (σ : ST) {res : ST} (hf : MD_place x1 x2 x3 x4 σ = some res) : MS l y_MD_place (Cond.code y_MD_place b_MD_place 5 r_MD_place :: BIG) 0 0 0 0 (wfm ad cs) D (ttf cs) eE [.ref (ad 18), .int x1, .int x2, .int x3, .int x4] σ (PV res) := by
  refine MS.of (cc := b_MD_place) (maxL := 5) (ret := r_MD_place) (by decide) rfl (Nat.le_of_ble_eq_true rfl) (loc := [(0, .ref (ad 18)), (1, .int x1), (2, .int x2), (3, .int x3), (4, .int x4)]) rfl (fun X C Rt => ?_)
  unfold MD_place at hf
  refine j_aload_n C 0 rfl rfl d_MD_place_0 ?_
  refine j_dup C rfl d_MD_place_1 ?_
  refine g_MD_lastOffer C (List.mem_cons_of_mem _ wd_4_27) d_MD_place_2 ?_
  refine j_iconst C (v := 1) (by decide) d_MD_place_5 ?_
  refine j_iadd C d_MD_place_6 ?_
  obtain ⟨σ7, eσ7, hf⟩ := o_nmS hf
  refine p_MD_lastOffer C eσ7 (List.mem_cons_of_mem _ wd_4_27) d_MD_place_7 ?_
  refine j_aload_n C 0 rfl rfl d_MD_place_10 ?_
  refine g_MD_offerId C (List.mem_cons_of_mem _ wd_4_28) d_MD_place_11 ?_
  refine j_aload_n C 0 rfl rfl d_MD_place_14 ?_
  refine g_MD_offers C (List.mem_cons_of_mem _ wd_4_26) d_MD_place_15 ?_
  refine j_aload_n C 0 rfl rfl d_MD_place_18 ?_
  refine g_MD_lastOffer C (List.mem_cons_of_mem _ wd_4_27) d_MD_place_19 ?_
  obtain ⟨g22, hf⟩ := o_gn hf
  obtain ⟨σ22, eσ22, hf⟩ := o_nmS hf
  refine sa_m_offerId C g22 eσ22 d_MD_place_22 ?_
  refine j_aload_n C 0 rfl rfl d_MD_place_23 ?_
  refine g_MD_ownerOf C (List.mem_cons_of_mem _ wd_4_29) d_MD_place_24 ?_
  refine j_aload_n C 0 rfl rfl d_MD_place_27 ?_
  refine g_MD_offers C (List.mem_cons_of_mem _ wd_4_26) d_MD_place_28 ?_
  refine j_aload_n C 0 rfl rfl d_MD_place_31 ?_
  refine g_MD_me C (List.mem_cons_of_mem _ wd_4_42) d_MD_place_32 ?_
  obtain ⟨g35, hf⟩ := o_gn hf
  obtain ⟨σ35, eσ35, hf⟩ := o_nmS hf
  refine sa_m_ownerOf C g35 eσ35 d_MD_place_35 ?_
  refine j_aload_n C 0 rfl rfl d_MD_place_36 ?_
  refine g_MD_wantsOf C (List.mem_cons_of_mem _ wd_4_30) d_MD_place_37 ?_
  refine j_aload_n C 0 rfl rfl d_MD_place_40 ?_
  refine g_MD_offers C (List.mem_cons_of_mem _ wd_4_26) d_MD_place_41 ?_
  refine j_iload_n C 1 rfl rfl d_MD_place_44 ?_
  obtain ⟨g45, hf⟩ := o_gn hf
  obtain ⟨σ45, eσ45, hf⟩ := o_nmS hf
  refine sa_m_wantsOf C g45 eσ45 d_MD_place_45 ?_
  refine j_aload_n C 0 rfl rfl d_MD_place_46 ?_
  refine g_MD_givesOf C (List.mem_cons_of_mem _ wd_4_31) d_MD_place_47 ?_
  refine j_aload_n C 0 rfl rfl d_MD_place_50 ?_
  refine g_MD_offers C (List.mem_cons_of_mem _ wd_4_26) d_MD_place_51 ?_
  refine j_iload_n C 3 rfl rfl d_MD_place_54 ?_
  obtain ⟨g55, hf⟩ := o_gn hf
  obtain ⟨σ55, eσ55, hf⟩ := o_nmS hf
  refine sa_m_givesOf C g55 eσ55 d_MD_place_55 ?_
  refine j_aload_n C 0 rfl rfl d_MD_place_56 ?_
  refine g_MD_wOf C (List.mem_cons_of_mem _ wd_4_32) d_MD_place_57 ?_
  refine j_aload_n C 0 rfl rfl d_MD_place_60 ?_
  refine g_MD_offers C (List.mem_cons_of_mem _ wd_4_26) d_MD_place_61 ?_
  refine j_iload_n C 2 rfl rfl d_MD_place_64 ?_
  obtain ⟨g65, hf⟩ := o_gn hf
  obtain ⟨σ65, eσ65, hf⟩ := o_nmS hf
  refine sa_m_wOf C g65 eσ65 d_MD_place_65 ?_
  refine j_aload_n C 0 rfl rfl d_MD_place_66 ?_
  refine g_MD_gOf C (List.mem_cons_of_mem _ wd_4_33) d_MD_place_67 ?_
  refine j_aload_n C 0 rfl rfl d_MD_place_70 ?_
  refine g_MD_offers C (List.mem_cons_of_mem _ wd_4_26) d_MD_place_71 ?_
  refine j_iload C 4 rfl d_MD_place_74 ?_
  obtain ⟨g76, hf⟩ := o_gn hf
  obtain ⟨σ76, eσ76, hf⟩ := o_nmS hf
  refine sa_m_gOf C g76 eσ76 d_MD_place_76 ?_
  refine j_aload_n C 0 rfl rfl d_MD_place_77 ?_
  refine j_dup C rfl d_MD_place_78 ?_
  refine g_MD_offers C (List.mem_cons_of_mem _ wd_4_26) d_MD_place_79 ?_
  refine j_iconst C (v := 1) (by decide) d_MD_place_82 ?_
  refine j_iadd C d_MD_place_83 ?_
  obtain ⟨σ84, eσ84, hf⟩ := o_nmS hf
  refine p_MD_offers C eσ84 (List.mem_cons_of_mem _ wd_4_26) d_MD_place_84 ?_
  have hf := Option.some.inj hf
  subst hf
  exact j_vret C Rt (Nat.zero_le _) (Nat.zero_le _) d_MD_place_87 ⟨rfl, rfl⟩
end
