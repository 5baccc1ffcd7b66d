section
variable {l : Launch} {D : va_G} {ad : Nat → Nat} {cs : Nat → ClassId} {eE : Nat × Nat}
theorem d_TL_pay_0 : decode b_TL_pay 0 = .ok (.aload_n 0, 1) := by decide +kernel
theorem d_TL_pay_1 : decode b_TL_pay 1 = .ok (.aload_n 0, 1) := by decide +kernel
theorem d_TL_pay_2 : decode b_TL_pay 2 = .ok (.iload_n 1, 1) := by decide +kernel
theorem d_TL_pay_3 : decode b_TL_pay 3 = .ok (.invokevirtual 54, 3) := by decide +kernel
theorem d_TL_pay_6 : decode b_TL_pay 6 = .ok (.ifCond .eq 29, 3) := by decide +kernel
theorem d_TL_pay_9 : decode b_TL_pay 9 = .ok (.iload_n 2, 1) := by decide +kernel
theorem d_TL_pay_10 : decode b_TL_pay 10 = .ok (.invokestatic 111, 3) := by decide +kernel
theorem d_TL_pay_13 : decode b_TL_pay 13 = .ok (.ifCond .eq 22, 3) := by decide +kernel
theorem d_TL_pay_16 : decode b_TL_pay 16 = .ok (.iload_n 2, 1) := by decide +kernel
theorem d_TL_pay_17 : decode b_TL_pay 17 = .ok (.ifCond .eq 18, 3) := by decide +kernel
theorem d_TL_pay_20 : decode b_TL_pay 20 = .ok (.iload_n 3, 1) := by decide +kernel
theorem d_TL_pay_21 : decode b_TL_pay 21 = .ok (.iconst 1, 1) := by decide +kernel
theorem d_TL_pay_22 : decode b_TL_pay 22 = .ok (.sipush 400, 3) := by decide +kernel
theorem d_TL_pay_25 : decode b_TL_pay 25 = .ok (.invokestatic 47, 3) := by decide +kernel
theorem d_TL_pay_28 : decode b_TL_pay 28 = .ok (.ifCond .eq 7, 3) := by decide +kernel
theorem d_TL_pay_31 : decode b_TL_pay 31 = .ok (.iconst 1, 1) := by decide +kernel
theorem d_TL_pay_32 : decode b_TL_pay 32 = .ok (.goto 4, 3) := by decide +kernel
theorem d_TL_pay_35 : decode b_TL_pay 35 = .ok (.iconst 0, 1) := by decide +kernel
theorem d_TL_pay_36 : decode b_TL_pay 36 = .ok (.invokevirtual 57, 3) := by decide +kernel
theorem d_TL_pay_39 : decode b_TL_pay 39 = .ok (.istore 4, 2) := by decide +kernel
theorem d_TL_pay_41 : decode b_TL_pay 41 = .ok (.iload 4, 2) := by decide +kernel
theorem d_TL_pay_43 : decode b_TL_pay 43 = .ok (.ifCond .eq 6, 3) := by decide +kernel
theorem d_TL_pay_46 : decode b_TL_pay 46 = .ok (.iload 4, 2) := by decide +kernel
theorem d_TL_pay_48 : decode b_TL_pay 48 = .ok (.ireturn, 1) := by decide +kernel
theorem d_TL_pay_49 : decode b_TL_pay 49 = .ok (.aload_n 0, 1) := by decide +kernel
theorem d_TL_pay_50 : decode b_TL_pay 50 = .ok (.getfield 10, 3) := by decide +kernel
theorem d_TL_pay_53 : decode b_TL_pay 53 = .ok (.getfield 61, 3) := by decide +kernel
theorem d_TL_pay_56 : decode b_TL_pay 56 = .ok (.iload_n 1, 1) := by decide +kernel
theorem d_TL_pay_57 : decode b_TL_pay 57 = .ok (.aaload, 1) := by decide +kernel
theorem d_TL_pay_58 : decode b_TL_pay 58 = .ok (.getfield 65, 3) := by decide +kernel
theorem d_TL_pay_61 : decode b_TL_pay 61 = .ok (.ifCond .ne 6, 3) := by decide +kernel
theorem d_TL_pay_64 : decode b_TL_pay 64 = .ok (.bipush 21, 2) := by decide +kernel
theorem d_TL_pay_66 : decode b_TL_pay 66 = .ok (.ireturn, 1) := by decide +kernel
theorem d_TL_pay_67 : decode b_TL_pay 67 = .ok (.aload_n 0, 1) := by decide +kernel
theorem d_TL_pay_68 : decode b_TL_pay 68 = .ok (.getfield 21, 3) := by decide +kernel
theorem d_TL_pay_71 : decode b_TL_pay 71 = .ok (.aload_n 0, 1) := by decide +kernel
theorem d_TL_pay_72 : decode b_TL_pay 72 = .ok (.getfield 32, 3) := by decide +kernel
theorem d_TL_pay_75 : decode b_TL_pay 75 = .ok (.aload_n 0, 1) := by decide +kernel
theorem d_TL_pay_76 : decode b_TL_pay 76 = .ok (.getfield 36, 3) := by decide +kernel
theorem d_TL_pay_79 : decode b_TL_pay 79 = .ok (.iload_n 2, 1) := by decide +kernel
theorem d_TL_pay_80 : decode b_TL_pay 80 = .ok (.invokevirtual 117, 3) := by decide +kernel
theorem d_TL_pay_83 : decode b_TL_pay 83 = .ok (.aload_n 0, 1) := by decide +kernel
theorem d_TL_pay_84 : decode b_TL_pay 84 = .ok (.getfield 40, 3) := by decide +kernel
theorem d_TL_pay_87 : decode b_TL_pay 87 = .ok (.aload_n 0, 1) := by decide +kernel
theorem d_TL_pay_88 : decode b_TL_pay 88 = .ok (.getfield 10, 3) := by decide +kernel
theorem d_TL_pay_91 : decode b_TL_pay 91 = .ok (.aload_n 0, 1) := by decide +kernel
theorem d_TL_pay_92 : decode b_TL_pay 92 = .ok (.getfield 32, 3) := by decide +kernel
theorem d_TL_pay_95 : decode b_TL_pay 95 = .ok (.aload_n 0, 1) := by decide +kernel
theorem d_TL_pay_96 : decode b_TL_pay 96 = .ok (.getfield 36, 3) := by decide +kernel
theorem d_TL_pay_99 : decode b_TL_pay 99 = .ok (.invokevirtual 71, 3) := by decide +kernel
theorem d_TL_pay_102 : decode b_TL_pay 102 = .ok (.invokestatic 120, 3) := by decide +kernel
theorem d_TL_pay_105 : decode b_TL_pay 105 = .ok (.istore 5, 2) := by decide +kernel
theorem d_TL_pay_107 : decode b_TL_pay 107 = .ok (.aload_n 0, 1) := by decide +kernel
theorem d_TL_pay_108 : decode b_TL_pay 108 = .ok (.getfield 114, 3) := by decide +kernel
theorem d_TL_pay_111 : decode b_TL_pay 111 = .ok (.ifCond .eq 15, 3) := by decide +kernel
theorem d_TL_pay_114 : decode b_TL_pay 114 = .ok (.aload_n 0, 1) := by decide +kernel
theorem d_TL_pay_115 : decode b_TL_pay 115 = .ok (.iload_n 1, 1) := by decide +kernel
theorem d_TL_pay_116 : decode b_TL_pay 116 = .ok (.iload_n 2, 1) := by decide +kernel
theorem d_TL_pay_117 : decode b_TL_pay 117 = .ok (.iload_n 3, 1) := by decide +kernel
theorem d_TL_pay_118 : decode b_TL_pay 118 = .ok (.iload 5, 2) := by decide +kernel
theorem d_TL_pay_120 : decode b_TL_pay 120 = .ok (.invokevirtual 125, 3) := by decide +kernel
theorem d_TL_pay_123 : decode b_TL_pay 123 = .ok (.goto 4, 3) := by decide +kernel
theorem d_TL_pay_126 : decode b_TL_pay 126 = .ok (.iload_n 3, 1) := by decide +kernel
theorem d_TL_pay_127 : decode b_TL_pay 127 = .ok (.istore 6, 2) := by decide +kernel
theorem d_TL_pay_129 : decode b_TL_pay 129 = .ok (.iload 6, 2) := by decide +kernel
theorem d_TL_pay_131 : decode b_TL_pay 131 = .ok (.ifCond .le 16, 3) := by decide +kernel
theorem d_TL_pay_134 : decode b_TL_pay 134 = .ok (.aload_n 0, 1) := by decide +kernel
theorem d_TL_pay_135 : decode b_TL_pay 135 = .ok (.iload_n 1, 1) := by decide +kernel
theorem d_TL_pay_136 : decode b_TL_pay 136 = .ok (.iload_n 2, 1) := by decide +kernel
theorem d_TL_pay_137 : decode b_TL_pay 137 = .ok (.iload 6, 2) := by decide +kernel
theorem d_TL_pay_139 : decode b_TL_pay 139 = .ok (.iload 5, 2) := by decide +kernel
theorem d_TL_pay_141 : decode b_TL_pay 141 = .ok (.invokevirtual 129, 3) := by decide +kernel
theorem d_TL_pay_144 : decode b_TL_pay 144 = .ok (.goto 4, 3) := by decide +kernel
theorem d_TL_pay_147 : decode b_TL_pay 147 = .ok (.iconst (-1), 1) := by decide +kernel
theorem d_TL_pay_148 : decode b_TL_pay 148 = .ok (.istore 7, 2) := by decide +kernel
theorem d_TL_pay_150 : decode b_TL_pay 150 = .ok (.iload 7, 2) := by decide +kernel
theorem d_TL_pay_152 : decode b_TL_pay 152 = .ok (.iconst (-1), 1) := by decide +kernel
theorem d_TL_pay_153 : decode b_TL_pay 153 = .ok (.if_icmp .ne 6, 3) := by decide +kernel
theorem d_TL_pay_156 : decode b_TL_pay 156 = .ok (.bipush 24, 2) := by decide +kernel
theorem d_TL_pay_158 : decode b_TL_pay 158 = .ok (.ireturn, 1) := by decide +kernel
theorem d_TL_pay_159 : decode b_TL_pay 159 = .ok (.aload_n 0, 1) := by decide +kernel
theorem d_TL_pay_160 : decode b_TL_pay 160 = .ok (.getfield 36, 3) := by decide +kernel
theorem d_TL_pay_163 : decode b_TL_pay 163 = .ok (.iload_n 2, 1) := by decide +kernel
theorem d_TL_pay_164 : decode b_TL_pay 164 = .ok (.if_icmp .eq 10, 3) := by decide +kernel
theorem d_TL_pay_167 : decode b_TL_pay 167 = .ok (.aload_n 0, 1) := by decide +kernel
theorem d_TL_pay_168 : decode b_TL_pay 168 = .ok (.getfield 21, 3) := by decide +kernel
theorem d_TL_pay_171 : decode b_TL_pay 171 = .ok (.invokevirtual 132, 3) := by decide +kernel
theorem d_TL_pay_174 : decode b_TL_pay 174 = .ok (.aload_n 0, 1) := by decide +kernel
theorem d_TL_pay_175 : decode b_TL_pay 175 = .ok (.getfield 10, 3) := by decide +kernel
theorem d_TL_pay_178 : decode b_TL_pay 178 = .ok (.aload_n 0, 1) := by decide +kernel
theorem d_TL_pay_179 : decode b_TL_pay 179 = .ok (.getfield 32, 3) := by decide +kernel
theorem d_TL_pay_182 : decode b_TL_pay 182 = .ok (.aload_n 0, 1) := by decide +kernel
theorem d_TL_pay_183 : decode b_TL_pay 183 = .ok (.getfield 36, 3) := by decide +kernel
theorem d_TL_pay_186 : decode b_TL_pay 186 = .ok (.iload 7, 2) := by decide +kernel
theorem d_TL_pay_188 : decode b_TL_pay 188 = .ok (.ineg, 1) := by decide +kernel
theorem d_TL_pay_189 : decode b_TL_pay 189 = .ok (.invokevirtual 75, 3) := by decide +kernel
theorem d_TL_pay_192 : decode b_TL_pay 192 = .ok (.aload_n 0, 1) := by decide +kernel
theorem d_TL_pay_193 : decode b_TL_pay 193 = .ok (.getfield 10, 3) := by decide +kernel
theorem d_TL_pay_196 : decode b_TL_pay 196 = .ok (.iload_n 1, 1) := by decide +kernel
theorem d_TL_pay_197 : decode b_TL_pay 197 = .ok (.iload_n 2, 1) := by decide +kernel
theorem d_TL_pay_198 : decode b_TL_pay 198 = .ok (.iload 6, 2) := by decide +kernel
theorem d_TL_pay_200 : decode b_TL_pay 200 = .ok (.invokevirtual 75, 3) := by decide +kernel
theorem d_TL_pay_203 : decode b_TL_pay 203 = .ok (.iconst 0, 1) := by decide +kernel
theorem d_TL_pay_204 : decode b_TL_pay 204 = .ok (.ireturn, 1) := by decide +kernel
def TL_pay_c174 (x1 : Int32) (x2 : Int32) (x6 : Int32) (x7 : Int32) (σ : ST) : Option (Int32 × ST) :=
  bd1 (ST_change (gI σ 0) (gI σ 2) (-x7) σ) fun σ189 =>
  bd1 (ST_change x1 x2 x6 σ189) fun σ200 =>
  some ((0 : Int32), σ200)
set_option maxRecDepth 100000 in
set_option maxHeartbeats 4000000 in
theorem w_TL_pay_c174 {X : JX} (C : JC X l D (ttf cs) eE b_TL_pay "TollLedger" 8 (Cond.code y_TL_pay b_TL_pay 8 r_TL_pay :: BIG) 7 170 0 0) {res : Int32 × ST} (Rt : JR X (wfm ad cs) 0 0 (PI res.1 res.2) r_TL_pay "pay")  (x1 : Int32) (x2 : Int32) (x6 : Int32) (x7 : Int32) (σ : ST) (hf : TL_pay_c174 x1 x2 x6 x7 σ = some res) : J (wfm ad cs) X 8 0 0 σ 174 [(0, .ref (ad 0)), (1, .int x1), (2, .int x2), (6, .int x6), (7, .int x7)] [] := by
  unfold TL_pay_c174 at hf
  refine j_aload_n C 0 rfl rfl d_TL_pay_174 ?_
  refine g_TL_state C (List.mem_cons_of_mem _ wd_1_218) d_TL_pay_175 ?_
  refine j_aload_n C 0 rfl rfl d_TL_pay_178 ?_
  refine g_TL_signer C (List.mem_cons_of_mem _ wd_1_221) d_TL_pay_179 ?_
  refine j_aload_n C 0 rfl rfl d_TL_pay_182 ?_
  refine g_TL_spendAsset C (List.mem_cons_of_mem _ wd_1_223) d_TL_pay_183 ?_
  refine j_iload C 4 rfl d_TL_pay_186 ?_
  refine j_ineg C d_TL_pay_188 ?_
  obtain ⟨σ189, h189, hf⟩ := o_b1 hf
  refine j_callV (ci := 1) (Cn := "TollLedger$State") (T := T_ST) (N := 6) C [.int (gI σ 0), .int (gI σ 2), .int (-x7)] [] (m_ST_change _ _ _ _ _ (gI σ 0) (gI σ 2) (-x7) σ h189) (gdV wd_2_85 wd_2_86 wd_2_87 wd_1_2 wc_ST_change) hy_ST_change rfl ⟨1, rfl⟩ rfl rfl (by decide) (by decide) (by decide) (by decide) (Nat.le_of_ble_eq_true rfl) d_TL_pay_189 (j_kV (σ1 := σ189) ?_)
  refine j_aload_n C 0 rfl rfl d_TL_pay_192 ?_
  refine g_TL_state C (List.mem_cons_of_mem _ wd_1_218) d_TL_pay_193 ?_
  refine j_iload_n C 1 rfl rfl d_TL_pay_196 ?_
  refine j_iload_n C 2 rfl rfl d_TL_pay_197 ?_
  refine j_iload C 3 rfl d_TL_pay_198 ?_
  obtain ⟨σ200, h200, hf⟩ := o_b1 hf
  refine j_callV (ci := 1) (Cn := "TollLedger$State") (T := T_ST) (N := 6) C [.int x1, .int x2, .int x6] [] (m_ST_change _ _ _ _ _ x1 x2 x6 σ189 h200) (gdV wd_2_85 wd_2_86 wd_2_87 wd_1_2 wc_ST_change) hy_ST_change rfl ⟨1, rfl⟩ rfl rfl (by decide) (by decide) (by decide) (by decide) (Nat.le_of_ble_eq_true rfl) d_TL_pay_200 (j_kV (σ1 := σ200) ?_)
  refine j_iconst C (v := 0) (by decide) d_TL_pay_203 ?_
  have hf := Option.some.inj hf
  subst hf
  exact j_iret C Rt (Nat.zero_le _) (Nat.zero_le _) d_TL_pay_204 ⟨rfl, rfl⟩
def TL_pay_c148 (x1 : Int32) (x2 : Int32) (x6 : Int32) (s0 : Int32) (σ : ST) : Option (Int32 × ST) :=
  if s0 = (-1 : Int32) then (some ((24 : Int32), σ))
  else (if (gI σ 2) = x2 then (TL_pay_c174 x1 x2 x6 s0 σ)
  else (bd1 (TK_carryOut σ) fun σ171 =>
  TL_pay_c174 x1 x2 x6 s0 σ171))
set_option maxRecDepth 100000 in
set_option maxHeartbeats 4000000 in
theorem w_TL_pay_c148 {X : JX} (C : JC X l D (ttf cs) eE b_TL_pay "TollLedger" 8 (Cond.code y_TL_pay b_TL_pay 8 r_TL_pay :: BIG) 7 170 0 0) {res : Int32 × ST} (Rt : JR X (wfm ad cs) 0 0 (PI res.1 res.2) r_TL_pay "pay")  (x1 : Int32) (x2 : Int32) (x6 : Int32) (s0 : Int32) (σ : ST) (hf : TL_pay_c148 x1 x2 x6 s0 σ = some res) : J (wfm ad cs) X 8 0 0 σ 148 [(0, .ref (ad 0)), (1, .int x1), (2, .int x2), (6, .int x6)] [.int s0] := by
  unfold TL_pay_c148 at hf
  refine j_istore C (by decide) (loc' := [(7, .int s0), (0, .ref (ad 0)), (1, .int x1), (2, .int x2), (6, .int x6)]) rfl d_TL_pay_148 ?_
  refine j_iload C 0 rfl d_TL_pay_150 ?_
  refine j_iconst C (v := -1) (by decide) d_TL_pay_152 ?_
  refine j_icmp_ne C d_TL_pay_153 rfl (fun c153 => ?_) (fun c153 => ?_)
  · have hf := o_if c153 hf
    refine j_aload_n C 1 rfl rfl d_TL_pay_159 ?_
    refine g_TL_spendAsset C (List.mem_cons_of_mem _ wd_1_223) d_TL_pay_160 ?_
    refine j_iload_n C 3 rfl rfl d_TL_pay_163 ?_
    refine j_icmp_eq C d_TL_pay_164 rfl (fun c164 => ?_) (fun c164 => ?_)
    · have hf := o_it c164 hf
      refine j_sub [1, 2, 3, 4, 0] rfl ?_
      exact w_TL_pay_c174 C Rt  x1 x2 x6 s0 σ hf
    · have hf := o_if c164 hf
      refine j_aload_n C 1 rfl rfl d_TL_pay_167 ?_
      refine g_TL_taking C (List.mem_cons_of_mem _ wd_1_219) d_TL_pay_168 ?_
      obtain ⟨σ171, h171, hf⟩ := o_b1 hf
      refine j_callV (ci := 4) (Cn := "TollLedger$Taking") (T := T_TK) (N := 13) C [] [] (m_TK_carryOut _ _ _ _ _ σ h171) (gdV wd_2_197 wd_2_198 wd_2_199 wd_1_8 wc_TK_carryOut) hy_TK_carryOut rfl ⟨4, rfl⟩ rfl rfl (by decide) (by decide) (by decide) (by decide) (Nat.le_of_ble_eq_true rfl) d_TL_pay_171 (j_kV (σ1 := σ171) ?_)
      refine j_sub [1, 2, 3, 4, 0] rfl ?_
      exact w_TL_pay_c174 C Rt  x1 x2 x6 s0 σ171 hf
  · have hf := o_it c153 hf
    refine j_bipush C (v := 24) (by decide) d_TL_pay_156 ?_
    have hf := Option.some.inj hf
    subst hf
    exact j_iret C Rt (Nat.zero_le _) (Nat.zero_le _) d_TL_pay_158 ⟨rfl, rfl⟩
def TL_pay_c127 (x1 : Int32) (x2 : Int32) (x5 : Int32) (s0 : Int32) (σ : ST) : Option (Int32 × ST) :=
  if s0 ≤ 0 then (TL_pay_c148 x1 x2 s0 (-1 : Int32) σ)
  else (bd2 (TL_spendingFor x1 x2 s0 x5 σ) fun r141 σ141 =>
  TL_pay_c148 x1 x2 s0 r141 σ141)
set_option maxRecDepth 100000 in
set_option maxHeartbeats 4000000 in
theorem w_TL_pay_c127 {X : JX} (C : JC X l D (ttf cs) eE b_TL_pay "TollLedger" 8 (Cond.code y_TL_pay b_TL_pay 8 r_TL_pay :: BIG) 7 170 0 0) {res : Int32 × ST} (Rt : JR X (wfm ad cs) 0 0 (PI res.1 res.2) r_TL_pay "pay")  (x1 : Int32) (x2 : Int32) (x5 : Int32) (s0 : Int32) (σ : ST) (hf : TL_pay_c127 x1 x2 x5 s0 σ = some res) : J (wfm ad cs) X 8 0 0 σ 127 [(0, .ref (ad 0)), (1, .int x1), (2, .int x2), (5, .int x5)] [.int s0] := by
  unfold TL_pay_c127 at hf
  refine j_istore C (by decide) (loc' := [(6, .int s0), (0, .ref (ad 0)), (1, .int x1), (2, .int x2), (5, .int x5)]) rfl d_TL_pay_127 ?_
  refine j_iload C 0 rfl d_TL_pay_129 ?_
  refine j_if_le C d_TL_pay_131 rfl (fun c131 => ?_) (fun c131 => ?_)
  · have hf := o_it c131 hf
    refine j_iconst C (v := -1) (by decide) d_TL_pay_147 ?_
    refine j_sub [1, 2, 3, 0] rfl ?_
    exact w_TL_pay_c148 C Rt  x1 x2 s0 (-1 : Int32) σ hf
  · have hf := o_if c131 hf
    refine j_aload_n C 1 rfl rfl d_TL_pay_134 ?_
    refine j_iload_n C 2 rfl rfl d_TL_pay_135 ?_
    refine j_iload_n C 3 rfl rfl d_TL_pay_136 ?_
    refine j_iload C 0 rfl d_TL_pay_137 ?_
    refine j_iload C 4 rfl d_TL_pay_139 ?_
    obtain ⟨r141, σ141, h141, hf⟩ := o_b2 hf
    refine j_callV (ci := 0) (Cn := "TollLedger") (T := T_TL) (N := 10) C [.int x1, .int x2, .int s0, .int x5] [] (m_TL_spendingFor _ _ _ _ _ x1 x2 s0 x5 σ h141) (gdV wd_2_148 wd_2_150 wp_5 wd_1_1 wc_TL_spendingFor) hy_TL_spendingFor rfl ⟨0, rfl⟩ rfl rfl (by decide) (by decide) (by decide) (by decide) (Nat.le_of_ble_eq_true rfl) d_TL_pay_141 (j_kI (r := r141) (σ1 := σ141) ?_)
    refine j_goto C d_TL_pay_144 rfl ?_
    refine j_sub [1, 2, 3, 0] rfl ?_
    exact w_TL_pay_c148 C Rt  x1 x2 s0 r141 σ141 hf
def TL_pay_c36 (x1 : Int32) (x2 : Int32) (x3 : Int32) (s1 : Int32) (σ : ST) : Option (Int32 × ST) :=
  bd2 (TL_charge s1 σ) fun r36 σ36 =>
  if r36 = 0 then (if x1 < 0 ∨ 6 ≤ x1.toNatClampNeg then none else
  bd1 (gR σ36 0 x1.toNatClampNeg) fun q57 =>
  if ¬ (q57 ∈ pL σ36 ∧ pK σ36 q57 = 1) then none else
  if (pP σ36 q57 0) = 0 then (some ((21 : Int32), σ36))
  else (bd1 (TK_open (gI σ36 0) (gI σ36 2) x2 σ36) fun σ80 =>
  bd1 (ST_fundsOf (gI σ80 0) (gI σ80 2) σ80) fun r99 =>
  nmI (imin (gI σ80 3) r99) fun x5_105 =>
  if (gI σ80 4) = 0 then (TL_pay_c127 x1 x2 x5_105 x3 σ80)
  else (bd2 (TL_greatestDelivery x1 x2 x3 x5_105 σ80) fun r120 σ120 =>
  TL_pay_c127 x1 x2 x5_105 r120 σ120)))
  else (some (r36, σ36))
set_option maxRecDepth 100000 in
set_option maxHeartbeats 4000000 in
theorem w_TL_pay_c36 {X : JX} (C : JC X l D (ttf cs) eE b_TL_pay "TollLedger" 8 (Cond.code y_TL_pay b_TL_pay 8 r_TL_pay :: BIG) 7 170 0 0) {res : Int32 × ST} (Rt : JR X (wfm ad cs) 0 0 (PI res.1 res.2) r_TL_pay "pay")  (x1 : Int32) (x2 : Int32) (x3 : Int32) (s1 : Int32) (σ : ST) (hf : TL_pay_c36 x1 x2 x3 s1 σ = some res) : J (wfm ad cs) X 8 0 0 σ 36 [(0, .ref (ad 0)), (1, .int x1), (2, .int x2), (3, .int x3)] [.int s1, .ref (ad 0)] := by
  unfold TL_pay_c36 at hf
  obtain ⟨r36, σ36, h36, hf⟩ := o_b2 hf
  refine j_callV (ci := 0) (Cn := "TollLedger") (T := T_TL) (N := 10) C [.int s1] [] (m_TL_charge _ _ _ _ _ s1 σ h36) (gdV wd_2_27 wd_2_29 wp_1 wd_1_1 wc_TL_charge) hy_TL_charge rfl ⟨0, rfl⟩ rfl rfl (by decide) (by decide) (by decide) (by decide) (Nat.le_of_ble_eq_true rfl) d_TL_pay_36 (j_kI (r := r36) (σ1 := σ36) ?_)
  refine j_istore C (by decide) (loc' := [(4, .int r36), (0, .ref (ad 0)), (1, .int x1), (2, .int x2), (3, .int x3)]) rfl d_TL_pay_39 ?_
  refine j_iload C 0 rfl d_TL_pay_41 ?_
  refine j_if_eq C d_TL_pay_43 rfl (fun c43 => ?_) (fun c43 => ?_)
  · have hf := o_it c43 hf
    refine j_aload_n C 1 rfl rfl d_TL_pay_49 ?_
    refine g_TL_state C (List.mem_cons_of_mem _ wd_1_218) d_TL_pay_50 ?_
    refine g_ST_accounts C (List.mem_cons_of_mem _ wd_1_112) d_TL_pay_53 ?_
    refine j_iload_n C 2 rfl rfl d_TL_pay_56 ?_
    obtain ⟨g57, hf⟩ := o_gn hf
    obtain ⟨q57, hq57, hf⟩ := o_b1 hf
    refine la_acc C g57 hq57 d_TL_pay_57 ?_
    obtain ⟨g58, hf⟩ := o_gn hf
    refine gp_Account_exists C (Decidable.not_not.mp g58) (List.mem_cons_of_mem _ wd_1_91) d_TL_pay_58 ?_
    refine j_if_ne C d_TL_pay_61 rfl (fun c61 => ?_) (fun c61 => ?_)
    · have hf := o_if c61 hf
      refine j_aload_n C 1 rfl rfl d_TL_pay_67 ?_
      refine g_TL_taking C (List.mem_cons_of_mem _ wd_1_219) d_TL_pay_68 ?_
      refine j_aload_n C 1 rfl rfl d_TL_pay_71 ?_
      refine g_TL_signer C (List.mem_cons_of_mem _ wd_1_221) d_TL_pay_72 ?_
      refine j_aload_n C 1 rfl rfl d_TL_pay_75 ?_
      refine g_TL_spendAsset C (List.mem_cons_of_mem _ wd_1_223) d_TL_pay_76 ?_
      refine j_iload_n C 3 rfl rfl d_TL_pay_79 ?_
      obtain ⟨σ80, h80, hf⟩ := o_b1 hf
      refine j_callV (ci := 4) (Cn := "TollLedger$Taking") (T := T_TK) (N := 13) C [.int (gI σ36 0), .int (gI σ36 2), .int x2] [] (m_TK_open _ _ _ _ _ (gI σ36 0) (gI σ36 2) x2 σ36 h80) (gdV wd_2_122 wd_2_123 wd_2_124 wd_1_8 wc_TK_open) hy_TK_open rfl ⟨4, rfl⟩ rfl rfl (by decide) (by decide) (by decide) (by decide) (Nat.le_of_ble_eq_true rfl) d_TL_pay_80 (j_kV (σ1 := σ80) ?_)
      refine j_aload_n C 1 rfl rfl d_TL_pay_83 ?_
      refine g_TL_spendMax C (List.mem_cons_of_mem _ wd_1_224) d_TL_pay_84 ?_
      refine j_aload_n C 1 rfl rfl d_TL_pay_87 ?_
      refine g_TL_state C (List.mem_cons_of_mem _ wd_1_218) d_TL_pay_88 ?_
      refine j_aload_n C 1 rfl rfl d_TL_pay_91 ?_
      refine g_TL_signer C (List.mem_cons_of_mem _ wd_1_221) d_TL_pay_92 ?_
      refine j_aload_n C 1 rfl rfl d_TL_pay_95 ?_
      refine g_TL_spendAsset C (List.mem_cons_of_mem _ wd_1_223) d_TL_pay_96 ?_
      obtain ⟨r99, h99, hf⟩ := o_b1 hf
      refine j_callV (ci := 1) (Cn := "TollLedger$State") (T := T_ST) (N := 6) C [.int (gI σ80 0), .int (gI σ80 2)] [.int (gI σ80 3)] (m_ST_fundsOf _ _ _ _ _ (gI σ80 0) (gI σ80 2) σ80 h99) (gdV wd_2_31 wd_2_32 wd_2_33 wd_1_2 wc_ST_fundsOf) hy_ST_fundsOf rfl ⟨1, rfl⟩ rfl rfl (by decide) (by decide) (by decide) (by decide) (Nat.le_of_ble_eq_true rfl) d_TL_pay_99 (j_kI (r := r99) (σ1 := σ80) ?_)
      refine j_mmin C (List.mem_cons_of_mem _ wd_2_141) (List.mem_cons_of_mem _ wd_2_142) (List.mem_cons_of_mem _ wd_1_14) (List.mem_cons_of_mem _ wm_min) (by decide) (Nat.le_of_ble_eq_true rfl) (by decide) (by decide) d_TL_pay_102 ?_
      obtain ⟨x5_105, ex5_105, hf⟩ := o_nmI hf
      refine j_topI ex5_105 ?_
      refine j_istore C (by decide) (loc' := [(5, .int x5_105), (4, .int r36), (0, .ref (ad 0)), (1, .int x1), (2, .int x2), (3, .int x3)]) rfl d_TL_pay_105 ?_
      refine j_aload_n C 2 rfl rfl d_TL_pay_107 ?_
      refine g_TL_spendPartial C (List.mem_cons_of_mem _ wd_1_225) d_TL_pay_108 ?_
      refine j_if_eq C d_TL_pay_111 rfl (fun c111 => ?_) (fun c111 => ?_)
      · have hf := o_it c111 hf
        refine j_iload_n C 5 rfl rfl d_TL_pay_126 ?_
        refine j_sub [2, 3, 4, 0] rfl ?_
        exact w_TL_pay_c127 C Rt  x1 x2 x5_105 x3 σ80 hf
      · have hf := o_if c111 hf
        refine j_aload_n C 2 rfl rfl d_TL_pay_114 ?_
        refine j_iload_n C 3 rfl rfl d_TL_pay_115 ?_
        refine j_iload_n C 4 rfl rfl d_TL_pay_116 ?_
        refine j_iload_n C 5 rfl rfl d_TL_pay_117 ?_
        refine j_iload C 0 rfl d_TL_pay_118 ?_
        obtain ⟨r120, σ120, h120, hf⟩ := o_b2 hf
        refine j_callV (ci := 0) (Cn := "TollLedger") (T := T_TL) (N := 10) C [.int x1, .int x2, .int x3, .int x5_105] [] (m_TL_greatestDelivery _ _ _ _ _ x1 x2 x3 x5_105 σ80 h120) (gdV wd_2_144 wd_2_146 wp_4 wd_1_1 wc_TL_greatestDelivery) hy_TL_greatestDelivery rfl ⟨0, rfl⟩ rfl rfl (by decide) (by decide) (by decide) (by decide) (Nat.le_of_ble_eq_true rfl) d_TL_pay_120 (j_kI (r := r120) (σ1 := σ120) ?_)
        refine j_goto C d_TL_pay_123 rfl ?_
        refine j_sub [2, 3, 4, 0] rfl ?_
        exact w_TL_pay_c127 C Rt  x1 x2 x5_105 r120 σ120 hf
    · have hf := o_it c61 hf
      refine j_bipush C (v := 21) (by decide) d_TL_pay_64 ?_
      have hf := Option.some.inj hf
      subst hf
      exact j_iret C Rt (Nat.zero_le _) (Nat.zero_le _) d_TL_pay_66 ⟨rfl, rfl⟩
  · have hf := o_if c43 hf
    refine j_iload C 0 rfl d_TL_pay_46 ?_
    have hf := Option.some.inj hf
    subst hf
    exact j_iret C Rt (Nat.zero_le _) (Nat.zero_le _) d_TL_pay_48 ⟨rfl, rfl⟩
def TL_pay (x1 : Int32) (x2 : Int32) (x3 : Int32) (σ : ST) : Option (Int32 × ST) :=
  bd1 (TL_isOther x1 σ) fun r3 =>
  if r3 = 0 then (TL_pay_c36 x1 x2 x3 (0 : Int32) σ)
  else (bd1 (TL_isAsset x2) fun r10 =>
  if r10 = 0 then (TL_pay_c36 x1 x2 x3 (0 : Int32) σ)
  else (if x2 = 0 then (TL_pay_c36 x1 x2 x3 (0 : Int32) σ)
  else (bd1 (TL_isWithin x3 (1 : Int32) (400 : Int32)) fun r25 =>
  if r25 = 0 then (TL_pay_c36 x1 x2 x3 (0 : Int32) σ)
  else (TL_pay_c36 x1 x2 x3 (1 : Int32) σ))))
set_option maxRecDepth 100000 in
set_option maxHeartbeats 4000000 in
theorem m_TL_pay (l : Launch) (D : va_G) (ad : Nat → Nat) (cs : Nat → ClassId) (eE : Nat × Nat) (x1 : Int32) (x2 : Int32) (x3 : Int32) (σ : ST) {res : Int32 × ST} (hf : TL_pay x1 x2 x3 σ = some res) : MS l y_TL_pay (Cond.code y_TL_pay b_TL_pay 8 r_TL_pay :: BIG) 7 170 0 0 (wfm ad cs) D (ttf cs) eE [.ref (ad 0), .int x1, .int x2, .int x3] σ (PI res.1 res.2) := by
  refine MS.of (cc := b_TL_pay) (maxL := 8) (ret := r_TL_pay) (by decide) rfl (Nat.le_of_ble_eq_true rfl) (loc := [(0, .ref (ad 0)), (1, .int x1), (2, .int x2), (3, .int x3)]) rfl (fun X C Rt => ?_)
  unfold TL_pay at hf
  refine j_aload_n C 0 rfl rfl d_TL_pay_0 ?_
  refine j_aload_n C 0 rfl rfl d_TL_pay_1 ?_
  refine j_iload_n C 1 rfl rfl d_TL_pay_2 ?_
  obtain ⟨r3, h3, hf⟩ := o_b1 hf
  refine j_callV (ci := 0) (Cn := "TollLedger") (T := T_TL) (N := 10) C [.int x1] [.ref (ad 0)] (m_TL_isOther _ _ _ _ _ x1 σ h3) (gdV wd_2_23 wd_2_25 wp_0 wd_1_1 wc_TL_isOther) hy_TL_isOther rfl ⟨0, rfl⟩ rfl rfl (by decide) (by decide) (by decide) (by decide) (Nat.le_of_ble_eq_true rfl) d_TL_pay_3 (j_kI (r := r3) (σ1 := σ) ?_)
  refine j_if_eq C d_TL_pay_6 rfl (fun c6 => ?_) (fun c6 => ?_)
  · have hf := o_it c6 hf
    refine j_iconst C (v := 0) (by decide) d_TL_pay_35 ?_
    exact w_TL_pay_c36 C Rt  x1 x2 x3 (0 : Int32) σ hf
  · have hf := o_if c6 hf
    refine j_iload_n C 2 rfl rfl d_TL_pay_9 ?_
    obtain ⟨r10, h10, hf⟩ := o_b1 hf
    refine j_callS C [.int x2] [.ref (ad 0)] (m_TL_isAsset _ _ _ _ _ x2 σ h10) (gdS wd_2_115 wd_2_116 wd_1_1 wc_TL_isAsset) hy_TL_isAsset rfl rfl (by decide) (by decide) (by decide) (by decide) (Nat.le_of_ble_eq_true rfl) d_TL_pay_10 (j_kI (r := r10) (σ1 := σ) ?_)
    refine j_if_eq C d_TL_pay_13 rfl (fun c13 => ?_) (fun c13 => ?_)
    · have hf := o_it c13 hf
      refine j_iconst C (v := 0) (by decide) d_TL_pay_35 ?_
      exact w_TL_pay_c36 C Rt  x1 x2 x3 (0 : Int32) σ hf
    · have hf := o_if c13 hf
      refine j_iload_n C 2 rfl rfl d_TL_pay_16 ?_
      refine j_if_eq C d_TL_pay_17 rfl (fun c17 => ?_) (fun c17 => ?_)
      · have hf := o_it c17 hf
        refine j_iconst C (v := 0) (by decide) d_TL_pay_35 ?_
        exact w_TL_pay_c36 C Rt  x1 x2 x3 (0 : Int32) σ hf
      · have hf := o_if c17 hf
        refine j_iload_n C 3 rfl rfl d_TL_pay_20 ?_
        refine j_iconst C (v := 1) (by decide) d_TL_pay_21 ?_
        refine j_sipush C (v := 400) (by decide) d_TL_pay_22 ?_
        obtain ⟨r25, h25, hf⟩ := o_b1 hf
        refine j_callS C [.int x3, .int (1 : Int32), .int (400 : Int32)] [.ref (ad 0)] (m_TL_isWithin _ _ _ _ _ x3 (1 : Int32) (400 : Int32) σ h25) (gdS wd_2_16 wd_2_17 wd_1_1 wc_TL_isWithin) hy_TL_isWithin rfl rfl (by decide) (by decide) (by decide) (by decide) (Nat.le_of_ble_eq_true rfl) d_TL_pay_25 (j_kI (r := r25) (σ1 := σ) ?_)
        refine j_if_eq C d_TL_pay_28 rfl (fun c28 => ?_) (fun c28 => ?_)
        · have hf := o_it c28 hf
          refine j_iconst C (v := 0) (by decide) d_TL_pay_35 ?_
          exact w_TL_pay_c36 C Rt  x1 x2 x3 (0 : Int32) σ hf
        · have hf := o_if c28 hf
          refine j_iconst C (v := 1) (by decide) d_TL_pay_31 ?_
          refine j_goto C d_TL_pay_32 rfl ?_
          exact w_TL_pay_c36 C Rt  x1 x2 x3 (1 : Int32) σ hf
theorem d_TL_rate_0 : decode b_TL_rate 0 = .ok (.aload_n 0, 1) := by decide +kernel
theorem d_TL_rate_1 : decode b_TL_rate 1 = .ok (.iload_n 1, 1) := by decide +kernel
theorem d_TL_rate_2 : decode b_TL_rate 2 = .ok (.iconst 0, 1) := by decide +kernel
theorem d_TL_rate_3 : decode b_TL_rate 3 = .ok (.sipush 200, 3) := by decide +kernel
theorem d_TL_rate_6 : decode b_TL_rate 6 = .ok (.invokestatic 47, 3) := by decide +kernel
theorem d_TL_rate_9 : decode b_TL_rate 9 = .ok (.invokevirtual 57, 3) := by decide +kernel
theorem d_TL_rate_12 : decode b_TL_rate 12 = .ok (.istore_n 2, 1) := by decide +kernel
theorem d_TL_rate_13 : decode b_TL_rate 13 = .ok (.iload_n 2, 1) := by decide +kernel
theorem d_TL_rate_14 : decode b_TL_rate 14 = .ok (.ifCond .eq 5, 3) := by decide +kernel
theorem d_TL_rate_17 : decode b_TL_rate 17 = .ok (.iload_n 2, 1) := by decide +kernel
theorem d_TL_rate_18 : decode b_TL_rate 18 = .ok (.ireturn, 1) := by decide +kernel
theorem d_TL_rate_19 : decode b_TL_rate 19 = .ok (.aload_n 0, 1) := by decide +kernel
theorem d_TL_rate_20 : decode b_TL_rate 20 = .ok (.getfield 10, 3) := by decide +kernel
theorem d_TL_rate_23 : decode b_TL_rate 23 = .ok (.getfield 61, 3) := by decide +kernel
theorem d_TL_rate_26 : decode b_TL_rate 26 = .ok (.aload_n 0, 1) := by decide +kernel
theorem d_TL_rate_27 : decode b_TL_rate 27 = .ok (.getfield 32, 3) := by decide +kernel
theorem d_TL_rate_30 : decode b_TL_rate 30 = .ok (.aaload, 1) := by decide +kernel
theorem d_TL_rate_31 : decode b_TL_rate 31 = .ok (.iload_n 1, 1) := by decide +kernel
theorem d_TL_rate_32 : decode b_TL_rate 32 = .ok (.putfield 108, 3) := by decide +kernel
theorem d_TL_rate_35 : decode b_TL_rate 35 = .ok (.iconst 0, 1) := by decide +kernel
theorem d_TL_rate_36 : decode b_TL_rate 36 = .ok (.ireturn, 1) := by decide +kernel
def TL_rate (x1 : Int32) (σ : ST) : Option (Int32 × ST) :=
  bd1 (TL_isWithin x1 (0 : Int32) (200 : Int32)) fun r6 =>
  bd2 (TL_charge r6 σ) fun r9 σ9 =>
  if r9 = 0 then (if (gI σ9 0) < 0 ∨ 6 ≤ (gI σ9 0).toNatClampNeg then none else
  bd1 (gR σ9 0 (gI σ9 0).toNatClampNeg) fun q30 =>
  if ¬ (q30 ∈ pL σ9 ∧ pK σ9 q30 = 1) then none else
  nmS (sP σ9 q30 3 x1) fun σ32 =>
  some ((0 : Int32), σ32))
  else (some (r9, σ9))
set_option maxRecDepth 100000 in
set_option maxHeartbeats 4000000 in
theorem m_TL_rate (l : Launch) (D : va_G) (ad : Nat → Nat) (cs : Nat → ClassId) (eE : Nat × Nat) (x1 : Int32) (σ : ST) {res : Int32 × ST} (hf : TL_rate x1 σ = some res) : MS l y_TL_rate (Cond.code y_TL_rate b_TL_rate 3 r_TL_rate :: BIG) 1 22 0 0 (wfm ad cs) D (ttf cs) eE [.ref (ad 0), .int x1] σ (PI res.1 res.2) := by
  refine MS.of (cc := b_TL_rate) (maxL := 3) (ret := r_TL_rate) (by decide) rfl (Nat.le_of_ble_eq_true rfl) (loc := [(0, .ref (ad 0)), (1, .int x1)]) rfl (fun X C Rt => ?_)
  unfold TL_rate at hf
  refine j_aload_n C 0 rfl rfl d_TL_rate_0 ?_
  refine j_iload_n C 1 rfl rfl d_TL_rate_1 ?_
  refine j_iconst C (v := 0) (by decide) d_TL_rate_2 ?_
  refine j_sipush C (v := 200) (by decide) d_TL_rate_3 ?_
  obtain ⟨r6, h6, hf⟩ := o_b1 hf
  refine j_callS C [.int x1, .int (0 : Int32), .int (200 : Int32)] [.ref (ad 0)] (m_TL_isWithin _ _ _ _ _ x1 (0 : Int32) (200 : Int32) σ h6) (gdS wd_2_16 wd_2_17 wd_1_1 wc_TL_isWithin) hy_TL_isWithin rfl rfl (by decide) (by decide) (by decide) (by decide) (Nat.le_of_ble_eq_true rfl) d_TL_rate_6 (j_kI (r := r6) (σ1 := σ) ?_)
  obtain ⟨r9, σ9, h9, hf⟩ := o_b2 hf
  refine j_callV (ci := 0) (Cn := "TollLedger") (T := T_TL) (N := 10) C [.int r6] [] (m_TL_charge _ _ _ _ _ r6 σ h9) (gdV wd_2_27 wd_2_29 wp_1 wd_1_1 wc_TL_charge) hy_TL_charge rfl ⟨0, rfl⟩ rfl rfl (by decide) (by decide) (by decide) (by decide) (Nat.le_of_ble_eq_true rfl) d_TL_rate_9 (j_kI (r := r9) (σ1 := σ9) ?_)
  refine j_istore_n C rfl (by decide) (loc' := [(2, .int r9), (0, .ref (ad 0)), (1, .int x1)]) rfl d_TL_rate_12 ?_
  refine j_iload_n C 0 rfl rfl d_TL_rate_13 ?_
  refine j_if_eq C d_TL_rate_14 rfl (fun c14 => ?_) (fun c14 => ?_)
  · have hf := o_it c14 hf
    refine j_aload_n C 1 rfl rfl d_TL_rate_19 ?_
    refine g_TL_state C (List.mem_cons_of_mem _ wd_1_218) d_TL_rate_20 ?_
    refine g_ST_accounts C (List.mem_cons_of_mem _ wd_1_112) d_TL_rate_23 ?_
    refine j_aload_n C 1 rfl rfl d_TL_rate_26 ?_
    refine g_TL_signer C (List.mem_cons_of_mem _ wd_1_221) d_TL_rate_27 ?_
    obtain ⟨g30, hf⟩ := o_gn hf
    obtain ⟨q30, hq30, hf⟩ := o_b1 hf
    refine la_acc C g30 hq30 d_TL_rate_30 ?_
    refine j_iload_n C 2 rfl rfl d_TL_rate_31 ?_
    obtain ⟨g32, hf⟩ := o_gn hf
    obtain ⟨σ32, eσ32, hf⟩ := o_nmS hf
    refine pp_Account_rate C (Decidable.not_not.mp g32) eσ32 (List.mem_cons_of_mem _ wd_1_98) d_TL_rate_32 ?_
    refine j_iconst C (v := 0) (by decide) d_TL_rate_35 ?_
    have hf := Option.some.inj hf
    subst hf
    exact j_iret C Rt (Nat.zero_le _) (Nat.zero_le _) d_TL_rate_36 ⟨rfl, rfl⟩
  · have hf := o_if c14 hf
    refine j_iload_n C 0 rfl rfl d_TL_rate_17 ?_
    have hf := Option.some.inj hf
    subst hf
    exact j_iret C Rt (Nat.zero_le _) (Nat.zero_le _) d_TL_rate_18 ⟨rfl, rfl⟩
theorem d_TL_root_0 : decode b_TL_root 0 = .ok (.aload_n 0, 1) := by decide +kernel
theorem d_TL_root_1 : decode b_TL_root 1 = .ok (.getfield 28, 3) := by decide +kernel
theorem d_TL_root_4 : decode b_TL_root 4 = .ok (.aload_n 0, 1) := by decide +kernel
theorem d_TL_root_5 : decode b_TL_root 5 = .ok (.getfield 10, 3) := by decide +kernel
theorem d_TL_root_8 : decode b_TL_root 8 = .ok (.invokevirtual 253, 3) := by decide +kernel
theorem d_TL_root_11 : decode b_TL_root 11 = .ok (.aload_n 0, 1) := by decide +kernel
theorem d_TL_root_12 : decode b_TL_root 12 = .ok (.getfield 28, 3) := by decide +kernel
theorem d_TL_root_15 : decode b_TL_root 15 = .ok (.invokevirtual 256, 3) := by decide +kernel
theorem d_TL_root_18 : decode b_TL_root 18 = .ok (.ireturn, 1) := by decide +kernel
def TL_root (σ : ST) : Option (Int32 × ST) :=
  bd1 (LV_fill σ) fun σ8 =>
  bd1 (LV_fold σ8) fun r15 =>
  some (r15, σ8)
set_option maxRecDepth 100000 in
set_option maxHeartbeats 4000000 in
theorem m_TL_root (l : Launch) (D : va_G) (ad : Nat → Nat) (cs : Nat → ClassId) (eE : Nat × Nat) (σ : ST) {res : Int32 × ST} (hf : TL_root σ = some res) : MS l y_TL_root (Cond.code y_TL_root b_TL_root 1 r_TL_root :: BIG) 4 93 0 0 (wfm ad cs) D (ttf cs) eE [.ref (ad 0)] σ (PI res.1 res.2) := by
  refine MS.of (cc := b_TL_root) (maxL := 1) (ret := r_TL_root) (by decide) rfl (Nat.le_of_ble_eq_true rfl) (loc := [(0, .ref (ad 0))]) rfl (fun X C Rt => ?_)
  unfold TL_root at hf
  refine j_aload_n C 0 rfl rfl d_TL_root_0 ?_
  refine g_TL_leaves C (List.mem_cons_of_mem _ wd_1_220) d_TL_root_1 ?_
  refine j_aload_n C 0 rfl rfl d_TL_root_4 ?_
  refine g_TL_state C (List.mem_cons_of_mem _ wd_1_218) d_TL_root_5 ?_
  obtain ⟨σ8, h8, hf⟩ := o_b1 hf
  refine j_callV (ci := 5) (Cn := "TollLedger$Leaves") (T := T_LV) (N := 1) C [.ref (ad 1)] [] (m_LV_fill _ _ _ _ _ σ h8) (gdV wd_3_206 wd_3_207 wd_3_208 wd_1_10 wc_LV_fill) hy_LV_fill rfl ⟨5, rfl⟩ rfl rfl (by decide) (by decide) (by decide) (by decide) (Nat.le_of_ble_eq_true rfl) d_TL_root_8 (j_kV (σ1 := σ8) ?_)
  refine j_aload_n C 0 rfl rfl d_TL_root_11 ?_
  refine g_TL_leaves C (List.mem_cons_of_mem _ wd_1_220) d_TL_root_12 ?_
  obtain ⟨r15, h15, hf⟩ := o_b1 hf
  refine j_callV (ci := 5) (Cn := "TollLedger$Leaves") (T := T_LV) (N := 1) C [] [] (m_LV_fold _ _ _ _ _ σ8 h15) (gdV wd_4_1 wd_4_2 wd_4_3 wd_1_10 wc_LV_fold) hy_LV_fold rfl ⟨5, rfl⟩ rfl rfl (by decide) (by decide) (by decide) (by decide) (Nat.le_of_ble_eq_true rfl) d_TL_root_15 (j_kI (r := r15) (σ1 := σ8) ?_)
  have hf := Option.some.inj hf
  subst hf
  exact j_iret C Rt (Nat.zero_le _) (Nat.zero_le _) d_TL_root_18 ⟨rfl, rfl⟩
theorem d_TL_send_0 : decode b_TL_send 0 = .ok (.aload_n 0, 1) := by decide +kernel
theorem d_TL_send_1 : decode b_TL_send 1 = .ok (.aload_n 0, 1) := by decide +kernel
theorem d_TL_send_2 : decode b_TL_send 2 = .ok (.iload_n 1, 1) := by decide +kernel
theorem d_TL_send_3 : decode b_TL_send 3 = .ok (.invokevirtual 54, 3) := by decide +kernel
theorem d_TL_send_6 : decode b_TL_send 6 = .ok (.ifCond .eq 17, 3) := by decide +kernel
theorem d_TL_send_9 : decode b_TL_send 9 = .ok (.iload_n 2, 1) := by decide +kernel
theorem d_TL_send_10 : decode b_TL_send 10 = .ok (.iconst 1, 1) := by decide +kernel
theorem d_TL_send_11 : decode b_TL_send 11 = .ok (.ldc 39, 2) := by decide +kernel
theorem d_TL_send_13 : decode b_TL_send 13 = .ok (.invokestatic 47, 3) := by decide +kernel
theorem d_TL_send_16 : decode b_TL_send 16 = .ok (.ifCond .eq 7, 3) := by decide +kernel
theorem d_TL_send_19 : decode b_TL_send 19 = .ok (.iconst 1, 1) := by decide +kernel
theorem d_TL_send_20 : decode b_TL_send 20 = .ok (.goto 4, 3) := by decide +kernel
theorem d_TL_send_23 : decode b_TL_send 23 = .ok (.iconst 0, 1) := by decide +kernel
theorem d_TL_send_24 : decode b_TL_send 24 = .ok (.invokevirtual 57, 3) := by decide +kernel
theorem d_TL_send_27 : decode b_TL_send 27 = .ok (.istore_n 3, 1) := by decide +kernel
theorem d_TL_send_28 : decode b_TL_send 28 = .ok (.iload_n 3, 1) := by decide +kernel
theorem d_TL_send_29 : decode b_TL_send 29 = .ok (.ifCond .eq 5, 3) := by decide +kernel
theorem d_TL_send_32 : decode b_TL_send 32 = .ok (.iload_n 3, 1) := by decide +kernel
theorem d_TL_send_33 : decode b_TL_send 33 = .ok (.ireturn, 1) := by decide +kernel
theorem d_TL_send_34 : decode b_TL_send 34 = .ok (.aload_n 0, 1) := by decide +kernel
theorem d_TL_send_35 : decode b_TL_send 35 = .ok (.getfield 10, 3) := by decide +kernel
theorem d_TL_send_38 : decode b_TL_send 38 = .ok (.getfield 61, 3) := by decide +kernel
theorem d_TL_send_41 : decode b_TL_send 41 = .ok (.iload_n 1, 1) := by decide +kernel
theorem d_TL_send_42 : decode b_TL_send 42 = .ok (.aaload, 1) := by decide +kernel
theorem d_TL_send_43 : decode b_TL_send 43 = .ok (.astore 4, 2) := by decide +kernel
theorem d_TL_send_45 : decode b_TL_send 45 = .ok (.aload 4, 2) := by decide +kernel
theorem d_TL_send_47 : decode b_TL_send 47 = .ok (.getfield 65, 3) := by decide +kernel
theorem d_TL_send_50 : decode b_TL_send 50 = .ok (.ifCond .ne 12, 3) := by decide +kernel
theorem d_TL_send_53 : decode b_TL_send 53 = .ok (.iload_n 2, 1) := by decide +kernel
theorem d_TL_send_54 : decode b_TL_send 54 = .ok (.bipush 100, 2) := by decide +kernel
theorem d_TL_send_56 : decode b_TL_send 56 = .ok (.if_icmp .ge 6, 3) := by decide +kernel
theorem d_TL_send_59 : decode b_TL_send 59 = .ok (.bipush 21, 2) := by decide +kernel
theorem d_TL_send_61 : decode b_TL_send 61 = .ok (.ireturn, 1) := by decide +kernel
theorem d_TL_send_62 : decode b_TL_send 62 = .ok (.aload_n 0, 1) := by decide +kernel
theorem d_TL_send_63 : decode b_TL_send 63 = .ok (.getfield 10, 3) := by decide +kernel
theorem d_TL_send_66 : decode b_TL_send 66 = .ok (.aload_n 0, 1) := by decide +kernel
theorem d_TL_send_67 : decode b_TL_send 67 = .ok (.getfield 32, 3) := by decide +kernel
theorem d_TL_send_70 : decode b_TL_send 70 = .ok (.iconst 0, 1) := by decide +kernel
theorem d_TL_send_71 : decode b_TL_send 71 = .ok (.invokevirtual 71, 3) := by decide +kernel
theorem d_TL_send_74 : decode b_TL_send 74 = .ok (.iload_n 2, 1) := by decide +kernel
theorem d_TL_send_75 : decode b_TL_send 75 = .ok (.if_icmp .ge 6, 3) := by decide +kernel
theorem d_TL_send_78 : decode b_TL_send 78 = .ok (.bipush 22, 2) := by decide +kernel
theorem d_TL_send_80 : decode b_TL_send 80 = .ok (.ireturn, 1) := by decide +kernel
theorem d_TL_send_81 : decode b_TL_send 81 = .ok (.aload 4, 2) := by decide +kernel
theorem d_TL_send_83 : decode b_TL_send 83 = .ok (.iconst 1, 1) := by decide +kernel
theorem d_TL_send_84 : decode b_TL_send 84 = .ok (.putfield 65, 3) := by decide +kernel
theorem d_TL_send_87 : decode b_TL_send 87 = .ok (.aload_n 0, 1) := by decide +kernel
theorem d_TL_send_88 : decode b_TL_send 88 = .ok (.getfield 10, 3) := by decide +kernel
theorem d_TL_send_91 : decode b_TL_send 91 = .ok (.aload_n 0, 1) := by decide +kernel
theorem d_TL_send_92 : decode b_TL_send 92 = .ok (.getfield 32, 3) := by decide +kernel
theorem d_TL_send_95 : decode b_TL_send 95 = .ok (.iconst 0, 1) := by decide +kernel
theorem d_TL_send_96 : decode b_TL_send 96 = .ok (.iload_n 2, 1) := by decide +kernel
theorem d_TL_send_97 : decode b_TL_send 97 = .ok (.ineg, 1) := by decide +kernel
theorem d_TL_send_98 : decode b_TL_send 98 = .ok (.invokevirtual 75, 3) := by decide +kernel
theorem d_TL_send_101 : decode b_TL_send 101 = .ok (.aload_n 0, 1) := by decide +kernel
theorem d_TL_send_102 : decode b_TL_send 102 = .ok (.getfield 10, 3) := by decide +kernel
theorem d_TL_send_105 : decode b_TL_send 105 = .ok (.iload_n 1, 1) := by decide +kernel
theorem d_TL_send_106 : decode b_TL_send 106 = .ok (.iconst 0, 1) := by decide +kernel
theorem d_TL_send_107 : decode b_TL_send 107 = .ok (.iload_n 2, 1) := by decide +kernel
theorem d_TL_send_108 : decode b_TL_send 108 = .ok (.invokevirtual 75, 3) := by decide +kernel
theorem d_TL_send_111 : decode b_TL_send 111 = .ok (.iconst 0, 1) := by decide +kernel
theorem d_TL_send_112 : decode b_TL_send 112 = .ok (.ireturn, 1) := by decide +kernel
def TL_send_c62 (x1 : Int32) (x2 : Int32) (x4 : Nat) (σ : ST) : Option (Int32 × ST) :=
  bd1 (ST_fundsOf (gI σ 0) (0 : Int32) σ) fun r71 =>
  if x2 ≤ r71 then (if ¬ (x4 ∈ pL σ ∧ pK σ x4 = 1) then none else
  nmS (sP σ x4 0 (1 : Int32)) fun σ84 =>
  bd1 (ST_change (gI σ84 0) (0 : Int32) (-x2) σ84) fun σ98 =>
  bd1 (ST_change x1 (0 : Int32) x2 σ98) fun σ108 =>
  some ((0 : Int32), σ108))
  else (some ((22 : Int32), σ))
set_option maxRecDepth 100000 in
set_option maxHeartbeats 4000000 in
theorem w_TL_send_c62 {X : JX} (C : JC X l D (ttf cs) eE b_TL_send "TollLedger" 5 (Cond.code y_TL_send b_TL_send 5 r_TL_send :: BIG) 6 131 0 0) {res : Int32 × ST} (Rt : JR X (wfm ad cs) 0 0 (PI res.1 res.2) r_TL_send "send")  (x1 : Int32) (x2 : Int32) (x4 : Nat) (σ : ST) (hf : TL_send_c62 x1 x2 x4 σ = some res) : J (wfm ad cs) X 5 0 0 σ 62 [(0, .ref (ad 0)), (1, .int x1), (2, .int x2), (4, .ref x4)] [] := by
  unfold TL_send_c62 at hf
  refine j_aload_n C 0 rfl rfl d_TL_send_62 ?_
  refine g_TL_state C (List.mem_cons_of_mem _ wd_1_218) d_TL_send_63 ?_
  refine j_aload_n C 0 rfl rfl d_TL_send_66 ?_
  refine g_TL_signer C (List.mem_cons_of_mem _ wd_1_221) d_TL_send_67 ?_
  refine j_iconst C (v := 0) (by decide) d_TL_send_70 ?_
  obtain ⟨r71, h71, hf⟩ := o_b1 hf
  refine j_callV (ci := 1) (Cn := "TollLedger$State") (T := T_ST) (N := 6) C [.int (gI σ 0), .int (0 : Int32)] [] (m_ST_fundsOf _ _ _ _ _ (gI σ 0) (0 : Int32) σ h71) (gdV wd_2_31 wd_2_32 wd_2_33 wd_1_2 wc_ST_fundsOf) hy_ST_fundsOf rfl ⟨1, rfl⟩ rfl rfl (by decide) (by decide) (by decide) (by decide) (Nat.le_of_ble_eq_true rfl) d_TL_send_71 (j_kI (r := r71) (σ1 := σ) ?_)
  refine j_iload_n C 2 rfl rfl d_TL_send_74 ?_
  refine j_icmp_ge C d_TL_send_75 rfl (fun c75 => ?_) (fun c75 => ?_)
  · have hf := o_it c75 hf
    refine j_aload C 3 rfl d_TL_send_81 ?_
    refine j_iconst C (v := 1) (by decide) d_TL_send_83 ?_
    obtain ⟨g84, hf⟩ := o_gn hf
    obtain ⟨σ84, eσ84, hf⟩ := o_nmS hf
    refine pp_Account_exists C (Decidable.not_not.mp g84) (by decide) eσ84 (List.mem_cons_of_mem _ wd_1_91) d_TL_send_84 ?_
    refine j_aload_n C 0 rfl rfl d_TL_send_87 ?_
    refine g_TL_state C (List.mem_cons_of_mem _ wd_1_218) d_TL_send_88 ?_
    refine j_aload_n C 0 rfl rfl d_TL_send_91 ?_
    refine g_TL_signer C (List.mem_cons_of_mem _ wd_1_221) d_TL_send_92 ?_
    refine j_iconst C (v := 0) (by decide) d_TL_send_95 ?_
    refine j_iload_n C 2 rfl rfl d_TL_send_96 ?_
    refine j_ineg C d_TL_send_97 ?_
    obtain ⟨σ98, h98, hf⟩ := o_b1 hf
    refine j_callV (ci := 1) (Cn := "TollLedger$State") (T := T_ST) (N := 6) C [.int (gI σ84 0), .int (0 : Int32), .int (-x2)] [] (m_ST_change _ _ _ _ _ (gI σ84 0) (0 : Int32) (-x2) σ84 h98) (gdV wd_2_85 wd_2_86 wd_2_87 wd_1_2 wc_ST_change) hy_ST_change rfl ⟨1, rfl⟩ rfl rfl (by decide) (by decide) (by decide) (by decide) (Nat.le_of_ble_eq_true rfl) d_TL_send_98 (j_kV (σ1 := σ98) ?_)
    refine j_aload_n C 0 rfl rfl d_TL_send_101 ?_
    refine g_TL_state C (List.mem_cons_of_mem _ wd_1_218) d_TL_send_102 ?_
    refine j_iload_n C 1 rfl rfl d_TL_send_105 ?_
    refine j_iconst C (v := 0) (by decide) d_TL_send_106 ?_
    refine j_iload_n C 2 rfl rfl d_TL_send_107 ?_
    obtain ⟨σ108, h108, hf⟩ := o_b1 hf
    refine j_callV (ci := 1) (Cn := "TollLedger$State") (T := T_ST) (N := 6) C [.int x1, .int (0 : Int32), .int x2] [] (m_ST_change _ _ _ _ _ x1 (0 : Int32) x2 σ98 h108) (gdV wd_2_85 wd_2_86 wd_2_87 wd_1_2 wc_ST_change) hy_ST_change rfl ⟨1, rfl⟩ rfl rfl (by decide) (by decide) (by decide) (by decide) (Nat.le_of_ble_eq_true rfl) d_TL_send_108 (j_kV (σ1 := σ108) ?_)
    refine j_iconst C (v := 0) (by decide) d_TL_send_111 ?_
    have hf := Option.some.inj hf
    subst hf
    exact j_iret C Rt (Nat.zero_le _) (Nat.zero_le _) d_TL_send_112 ⟨rfl, rfl⟩
  · have hf := o_if c75 hf
    refine j_bipush C (v := 22) (by decide) d_TL_send_78 ?_
    have hf := Option.some.inj hf
    subst hf
    exact j_iret C Rt (Nat.zero_le _) (Nat.zero_le _) d_TL_send_80 ⟨rfl, rfl⟩
def TL_send_c24 (x1 : Int32) (x2 : Int32) (s1 : Int32) (σ : ST) : Option (Int32 × ST) :=
  bd2 (TL_charge s1 σ) fun r24 σ24 =>
  if r24 = 0 then (if x1 < 0 ∨ 6 ≤ x1.toNatClampNeg then none else
  bd1 (gR σ24 0 x1.toNatClampNeg) fun q42 =>
  if ¬ (q42 ∈ pL σ24 ∧ pK σ24 q42 = 1) then none else
  if (pP σ24 q42 0) = 0 then (if (100 : Int32) ≤ x2 then (TL_send_c62 x1 x2 q42 σ24)
  else (some ((21 : Int32), σ24)))
  else (TL_send_c62 x1 x2 q42 σ24))
  else (some (r24, σ24))
set_option maxRecDepth 100000 in
set_option maxHeartbeats 4000000 in
theorem w_TL_send_c24 {X : JX} (C : JC X l D (ttf cs) eE b_TL_send "TollLedger" 5 (Cond.code y_TL_send b_TL_send 5 r_TL_send :: BIG) 6 131 0 0) {res : Int32 × ST} (Rt : JR X (wfm ad cs) 0 0 (PI res.1 res.2) r_TL_send "send")  (x1 : Int32) (x2 : Int32) (s1 : Int32) (σ : ST) (hf : TL_send_c24 x1 x2 s1 σ = some res) : J (wfm ad cs) X 5 0 0 σ 24 [(0, .ref (ad 0)), (1, .int x1), (2, .int x2)] [.int s1, .ref (ad 0)] := by
  unfold TL_send_c24 at hf
  obtain ⟨r24, σ24, h24, hf⟩ := o_b2 hf
  refine j_callV (ci := 0) (Cn := "TollLedger") (T := T_TL) (N := 10) C [.int s1] [] (m_TL_charge _ _ _ _ _ s1 σ h24) (gdV wd_2_27 wd_2_29 wp_1 wd_1_1 wc_TL_charge) hy_TL_charge rfl ⟨0, rfl⟩ rfl rfl (by decide) (by decide) (by decide) (by decide) (Nat.le_of_ble_eq_true rfl) d_TL_send_24 (j_kI (r := r24) (σ1 := σ24) ?_)
  refine j_istore_n C rfl (by decide) (loc' := [(3, .int r24), (0, .ref (ad 0)), (1, .int x1), (2, .int x2)]) rfl d_TL_send_27 ?_
  refine j_iload_n C 0 rfl rfl d_TL_send_28 ?_
  refine j_if_eq C d_TL_send_29 rfl (fun c29 => ?_) (fun c29 => ?_)
  · have hf := o_it c29 hf
    refine j_aload_n C 1 rfl rfl d_TL_send_34 ?_
    refine g_TL_state C (List.mem_cons_of_mem _ wd_1_218) d_TL_send_35 ?_
    refine g_ST_accounts C (List.mem_cons_of_mem _ wd_1_112) d_TL_send_38 ?_
    refine j_iload_n C 2 rfl rfl d_TL_send_41 ?_
    obtain ⟨g42, hf⟩ := o_gn hf
    obtain ⟨q42, hq42, hf⟩ := o_b1 hf
    refine la_acc C g42 hq42 d_TL_send_42 ?_
    refine j_astore C (by decide) (loc' := [(4, .ref q42), (3, .int r24), (0, .ref (ad 0)), (1, .int x1), (2, .int x2)]) rfl d_TL_send_43 ?_
    refine j_aload C 0 rfl d_TL_send_45 ?_
    obtain ⟨g47, hf⟩ := o_gn hf
    refine gp_Account_exists C (Decidable.not_not.mp g47) (List.mem_cons_of_mem _ wd_1_91) d_TL_send_47 ?_
    refine j_if_ne C d_TL_send_50 rfl (fun c50 => ?_) (fun c50 => ?_)
    · have hf := o_if c50 hf
      refine j_sub [2, 3, 4, 0] rfl ?_
      exact w_TL_send_c62 C Rt  x1 x2 q42 σ24 hf
    · have hf := o_it c50 hf
      refine j_iload_n C 4 rfl rfl d_TL_send_53 ?_
      refine j_bipush C (v := 100) (by decide) d_TL_send_54 ?_
      refine j_icmp_ge C d_TL_send_56 rfl (fun c56 => ?_) (fun c56 => ?_)
      · have hf := o_it c56 hf
        refine j_sub [2, 3, 4, 0] rfl ?_
        exact w_TL_send_c62 C Rt  x1 x2 q42 σ24 hf
      · have hf := o_if c56 hf
        refine j_bipush C (v := 21) (by decide) d_TL_send_59 ?_
        have hf := Option.some.inj hf
        subst hf
        exact j_iret C Rt (Nat.zero_le _) (Nat.zero_le _) d_TL_send_61 ⟨rfl, rfl⟩
  · have hf := o_if c29 hf
    refine j_iload_n C 0 rfl rfl d_TL_send_32 ?_
    have hf := Option.some.inj hf
    subst hf
    exact j_iret C Rt (Nat.zero_le _) (Nat.zero_le _) d_TL_send_33 ⟨rfl, rfl⟩
def TL_send (x1 : Int32) (x2 : Int32) (σ : ST) : Option (Int32 × ST) :=
  bd1 (TL_isOther x1 σ) fun r3 =>
  if r3 = 0 then (TL_send_c24 x1 x2 (0 : Int32) σ)
  else (bd1 (TL_isWithin x2 (1 : Int32) (1000000 : Int32)) fun r13 =>
  if r13 = 0 then (TL_send_c24 x1 x2 (0 : Int32) σ)
  else (TL_send_c24 x1 x2 (1 : Int32) σ))
set_option maxRecDepth 100000 in
set_option maxHeartbeats 4000000 in
theorem m_TL_send (l : Launch) (D : va_G) (ad : Nat → Nat) (cs : Nat → ClassId) (eE : Nat × Nat) (x1 : Int32) (x2 : Int32) (σ : ST) {res : Int32 × ST} (hf : TL_send x1 x2 σ = some res) : MS l y_TL_send (Cond.code y_TL_send b_TL_send 5 r_TL_send :: BIG) 6 131 0 0 (wfm ad cs) D (ttf cs) eE [.ref (ad 0), .int x1, .int x2] σ (PI res.1 res.2) := by
  refine MS.of (cc := b_TL_send) (maxL := 5) (ret := r_TL_send) (by decide) rfl (Nat.le_of_ble_eq_true rfl) (loc := [(0, .ref (ad 0)), (1, .int x1), (2, .int x2)]) rfl (fun X C Rt => ?_)
  unfold TL_send at hf
  refine j_aload_n C 0 rfl rfl d_TL_send_0 ?_
  refine j_aload_n C 0 rfl rfl d_TL_send_1 ?_
  refine j_iload_n C 1 rfl rfl d_TL_send_2 ?_
  obtain ⟨r3, h3, hf⟩ := o_b1 hf
  refine j_callV (ci := 0) (Cn := "TollLedger") (T := T_TL) (N := 10) C [.int x1] [.ref (ad 0)] (m_TL_isOther _ _ _ _ _ x1 σ h3) (gdV wd_2_23 wd_2_25 wp_0 wd_1_1 wc_TL_isOther) hy_TL_isOther rfl ⟨0, rfl⟩ rfl rfl (by decide) (by decide) (by decide) (by decide) (Nat.le_of_ble_eq_true rfl) d_TL_send_3 (j_kI (r := r3) (σ1 := σ) ?_)
  refine j_if_eq C d_TL_send_6 rfl (fun c6 => ?_) (fun c6 => ?_)
  · have hf := o_it c6 hf
    refine j_iconst C (v := 0) (by decide) d_TL_send_23 ?_
    exact w_TL_send_c24 C Rt  x1 x2 (0 : Int32) σ hf
  · have hf := o_if c6 hf
    refine j_iload_n C 2 rfl rfl d_TL_send_9 ?_
    refine j_iconst C (v := 1) (by decide) d_TL_send_10 ?_
    refine j_ldc C (v := 1000000) (List.mem_cons_of_mem _ wd_1_217) d_TL_send_11 ?_
    obtain ⟨r13, h13, hf⟩ := o_b1 hf
    refine j_callS C [.int x2, .int (1 : Int32), .int (1000000 : Int32)] [.ref (ad 0)] (m_TL_isWithin _ _ _ _ _ x2 (1 : Int32) (1000000 : Int32) σ h13) (gdS wd_2_16 wd_2_17 wd_1_1 wc_TL_isWithin) hy_TL_isWithin rfl rfl (by decide) (by decide) (by decide) (by decide) (Nat.le_of_ble_eq_true rfl) d_TL_send_13 (j_kI (r := r13) (σ1 := σ) ?_)
    refine j_if_eq C d_TL_send_16 rfl (fun c16 => ?_) (fun c16 => ?_)
    · have hf := o_it c16 hf
      refine j_iconst C (v := 0) (by decide) d_TL_send_23 ?_
      exact w_TL_send_c24 C Rt  x1 x2 (0 : Int32) σ hf
    · have hf := o_if c16 hf
      refine j_iconst C (v := 1) (by decide) d_TL_send_19 ?_
      refine j_goto C d_TL_send_20 rfl ?_
      exact w_TL_send_c24 C Rt  x1 x2 (1 : Int32) σ hf
theorem d_TL_settle_0 : decode b_TL_settle 0 = .ok (.aload_n 0, 1) := by decide +kernel
theorem d_TL_settle_1 : decode b_TL_settle 1 = .ok (.iload_n 1, 1) := by decide +kernel
theorem d_TL_settle_2 : decode b_TL_settle 2 = .ok (.iconst 1, 1) := by decide +kernel
theorem d_TL_settle_3 : decode b_TL_settle 3 = .ok (.if_icmp .lt 7, 3) := by decide +kernel
theorem d_TL_settle_6 : decode b_TL_settle 6 = .ok (.iconst 1, 1) := by decide +kernel
theorem d_TL_settle_7 : decode b_TL_settle 7 = .ok (.goto 4, 3) := by decide +kernel
theorem d_TL_settle_10 : decode b_TL_settle 10 = .ok (.iconst 0, 1) := by decide +kernel
theorem d_TL_settle_11 : decode b_TL_settle 11 = .ok (.invokevirtual 57, 3) := by decide +kernel
theorem d_TL_settle_14 : decode b_TL_settle 14 = .ok (.istore_n 2, 1) := by decide +kernel
theorem d_TL_settle_15 : decode b_TL_settle 15 = .ok (.iload_n 2, 1) := by decide +kernel
theorem d_TL_settle_16 : decode b_TL_settle 16 = .ok (.ifCond .eq 5, 3) := by decide +kernel
theorem d_TL_settle_19 : decode b_TL_settle 19 = .ok (.iload_n 2, 1) := by decide +kernel
theorem d_TL_settle_20 : decode b_TL_settle 20 = .ok (.ireturn, 1) := by decide +kernel
theorem d_TL_settle_21 : decode b_TL_settle 21 = .ok (.aload_n 0, 1) := by decide +kernel
theorem d_TL_settle_22 : decode b_TL_settle 22 = .ok (.getfield 10, 3) := by decide +kernel
theorem d_TL_settle_25 : decode b_TL_settle 25 = .ok (.iload_n 1, 1) := by decide +kernel
theorem d_TL_settle_26 : decode b_TL_settle 26 = .ok (.invokevirtual 189, 3) := by decide +kernel
theorem d_TL_settle_29 : decode b_TL_settle 29 = .ok (.istore_n 3, 1) := by decide +kernel
theorem d_TL_settle_30 : decode b_TL_settle 30 = .ok (.iload_n 3, 1) := by decide +kernel
theorem d_TL_settle_31 : decode b_TL_settle 31 = .ok (.iconst (-1), 1) := by decide +kernel
theorem d_TL_settle_32 : decode b_TL_settle 32 = .ok (.if_icmp .ne 6, 3) := by decide +kernel
theorem d_TL_settle_35 : decode b_TL_settle 35 = .ok (.bipush 26, 2) := by decide +kernel
theorem d_TL_settle_37 : decode b_TL_settle 37 = .ok (.ireturn, 1) := by decide +kernel
theorem d_TL_settle_38 : decode b_TL_settle 38 = .ok (.aload_n 0, 1) := by decide +kernel
theorem d_TL_settle_39 : decode b_TL_settle 39 = .ok (.getfield 10, 3) := by decide +kernel
theorem d_TL_settle_42 : decode b_TL_settle 42 = .ok (.getfield 180, 3) := by decide +kernel
theorem d_TL_settle_45 : decode b_TL_settle 45 = .ok (.iload_n 3, 1) := by decide +kernel
theorem d_TL_settle_46 : decode b_TL_settle 46 = .ok (.invokevirtual 166, 3) := by decide +kernel
theorem d_TL_settle_49 : decode b_TL_settle 49 = .ok (.checkcast 192, 3) := by decide +kernel
theorem d_TL_settle_52 : decode b_TL_settle 52 = .ok (.astore 4, 2) := by decide +kernel
theorem d_TL_settle_54 : decode b_TL_settle 54 = .ok (.aload_n 0, 1) := by decide +kernel
theorem d_TL_settle_55 : decode b_TL_settle 55 = .ok (.getfield 194, 3) := by decide +kernel
theorem d_TL_settle_58 : decode b_TL_settle 58 = .ok (.aload 4, 2) := by decide +kernel
theorem d_TL_settle_60 : decode b_TL_settle 60 = .ok (.getfield 197, 3) := by decide +kernel
theorem d_TL_settle_63 : decode b_TL_settle 63 = .ok (.if_icmp .ge 6, 3) := by decide +kernel
theorem d_TL_settle_66 : decode b_TL_settle 66 = .ok (.bipush 27, 2) := by decide +kernel
theorem d_TL_settle_68 : decode b_TL_settle 68 = .ok (.ireturn, 1) := by decide +kernel
theorem d_TL_settle_69 : decode b_TL_settle 69 = .ok (.aload_n 0, 1) := by decide +kernel
theorem d_TL_settle_70 : decode b_TL_settle 70 = .ok (.getfield 10, 3) := by decide +kernel
theorem d_TL_settle_73 : decode b_TL_settle 73 = .ok (.aload_n 0, 1) := by decide +kernel
theorem d_TL_settle_74 : decode b_TL_settle 74 = .ok (.getfield 194, 3) := by decide +kernel
theorem d_TL_settle_77 : decode b_TL_settle 77 = .ok (.aload 4, 2) := by decide +kernel
theorem d_TL_settle_79 : decode b_TL_settle 79 = .ok (.getfield 200, 3) := by decide +kernel
theorem d_TL_settle_82 : decode b_TL_settle 82 = .ok (.if_icmp .ge 11, 3) := by decide +kernel
theorem d_TL_settle_85 : decode b_TL_settle 85 = .ok (.aload 4, 2) := by decide +kernel
theorem d_TL_settle_87 : decode b_TL_settle 87 = .ok (.getfield 203, 3) := by decide +kernel
theorem d_TL_settle_90 : decode b_TL_settle 90 = .ok (.goto 8, 3) := by decide +kernel
theorem d_TL_settle_93 : decode b_TL_settle 93 = .ok (.aload 4, 2) := by decide +kernel
theorem d_TL_settle_95 : decode b_TL_settle 95 = .ok (.getfield 206, 3) := by decide +kernel
theorem d_TL_settle_98 : decode b_TL_settle 98 = .ok (.iconst 0, 1) := by decide +kernel
theorem d_TL_settle_99 : decode b_TL_settle 99 = .ok (.aload 4, 2) := by decide +kernel
theorem d_TL_settle_101 : decode b_TL_settle 101 = .ok (.getfield 209, 3) := by decide +kernel
theorem d_TL_settle_104 : decode b_TL_settle 104 = .ok (.invokevirtual 75, 3) := by decide +kernel
theorem d_TL_settle_107 : decode b_TL_settle 107 = .ok (.aload_n 0, 1) := by decide +kernel
theorem d_TL_settle_108 : decode b_TL_settle 108 = .ok (.getfield 10, 3) := by decide +kernel
theorem d_TL_settle_111 : decode b_TL_settle 111 = .ok (.getfield 180, 3) := by decide +kernel
theorem d_TL_settle_114 : decode b_TL_settle 114 = .ok (.iload_n 3, 1) := by decide +kernel
theorem d_TL_settle_115 : decode b_TL_settle 115 = .ok (.invokevirtual 177, 3) := by decide +kernel
theorem d_TL_settle_118 : decode b_TL_settle 118 = .ok (.pop, 1) := by decide +kernel
theorem d_TL_settle_119 : decode b_TL_settle 119 = .ok (.iconst 0, 1) := by decide +kernel
theorem d_TL_settle_120 : decode b_TL_settle 120 = .ok (.ireturn, 1) := by decide +kernel
def TL_settle_c98 (x3 : Int32) (x4 : Nat) (s1 : Int32) (σ : ST) : Option (Int32 × ST) :=
  if ¬ (x4 ∈ pL σ ∧ pK σ x4 = 3) then none else
  bd1 (ST_change s1 (0 : Int32) (pP σ x4 3) σ) fun σ104 =>
  bd2 (AL_remove_DL x3 σ104) fun r115 σ115 =>
  some ((0 : Int32), σ115)
set_option maxRecDepth 100000 in
set_option maxHeartbeats 4000000 in
theorem w_TL_settle_c98 {X : JX} (C : JC X l D (ttf cs) eE b_TL_settle "TollLedger" 5 (Cond.code y_TL_settle b_TL_settle 5 r_TL_settle :: BIG) 4 86 0 0) {res : Int32 × ST} (Rt : JR X (wfm ad cs) 0 0 (PI res.1 res.2) r_TL_settle "settle")  (x3 : Int32) (x4 : Nat) (s1 : Int32) (σ : ST) (hf : TL_settle_c98 x3 x4 s1 σ = some res) : J (wfm ad cs) X 5 0 0 σ 98 [(0, .ref (ad 0)), (3, .int x3), (4, .ref x4)] [.int s1, .ref (ad 1)] := by
  unfold TL_settle_c98 at hf
  refine j_iconst C (v := 0) (by decide) d_TL_settle_98 ?_
  refine j_aload C 2 rfl d_TL_settle_99 ?_
  obtain ⟨g101, hf⟩ := o_gn hf
  refine gp_Deposit_coins C (Decidable.not_not.mp g101) (List.mem_cons_of_mem _ wd_3_131) d_TL_settle_101 ?_
  obtain ⟨σ104, h104, hf⟩ := o_b1 hf
  refine j_callV (ci := 1) (Cn := "TollLedger$State") (T := T_ST) (N := 6) C [.int s1, .int (0 : Int32), .int (pP σ x4 3)] [] (m_ST_change _ _ _ _ _ s1 (0 : Int32) (pP σ x4 3) σ h104) (gdV wd_2_85 wd_2_86 wd_2_87 wd_1_2 wc_ST_change) hy_ST_change rfl ⟨1, rfl⟩ rfl rfl (by decide) (by decide) (by decide) (by decide) (Nat.le_of_ble_eq_true rfl) d_TL_settle_104 (j_kV (σ1 := σ104) ?_)
  refine j_aload_n C 0 rfl rfl d_TL_settle_107 ?_
  refine g_TL_state C (List.mem_cons_of_mem _ wd_1_218) d_TL_settle_108 ?_
  refine g_ST_deposits C (List.mem_cons_of_mem _ wd_1_122) d_TL_settle_111 ?_
  refine j_iload_n C 1 rfl rfl d_TL_settle_114 ?_
  obtain ⟨r115, σ115, h115, hf⟩ := o_b2 hf
  refine j_callV (ci := 9) (Cn := "java/util/ArrayList") (T := T_AL) (N := 3) C [.int x3] [] (m_AL_remove_DL _ _ _ _ _ x3 σ104 h115) (gdV wd_3_108 wd_2_207 wd_2_208 wd_1_6 wc_AL_remove) hy_AL_remove rfl ⟨7, rfl⟩ rfl rfl (by decide) (by decide) (by decide) (by decide) (Nat.le_of_ble_eq_true rfl) d_TL_settle_115 (j_kA (r := r115) (σ1 := σ115) ?_)
  refine j_pop C rfl d_TL_settle_118 ?_
  refine j_iconst C (v := 0) (by decide) d_TL_settle_119 ?_
  have hf := Option.some.inj hf
  subst hf
  exact j_iret C Rt (Nat.zero_le _) (Nat.zero_le _) d_TL_settle_120 ⟨rfl, rfl⟩
def TL_settle_c11 (x1 : Int32) (s1 : Int32) (σ : ST) : Option (Int32 × ST) :=
  bd2 (TL_charge s1 σ) fun r11 σ11 =>
  if r11 = 0 then (bd1 (ST_placeOfDeposit x1 σ11) fun r26 =>
  if r26 = (-1 : Int32) then (some ((26 : Int32), σ11))
  else (bd1 (AL_get_DL r26 σ11) fun r46 =>
  if ¬ (r46 ∈ pL σ11 ∧ pK σ11 r46 = 3) then none else
  if (pP σ11 r46 4) ≤ (gI σ11 5) then (if (pP σ11 r46 5) ≤ (gI σ11 5) then (TL_settle_c98 r26 r46 (pP σ11 r46 1) σ11)
  else (TL_settle_c98 r26 r46 (pP σ11 r46 2) σ11))
  else (some ((27 : Int32), σ11))))
  else (some (r11, σ11))
set_option maxRecDepth 100000 in
set_option maxHeartbeats 4000000 in
theorem w_TL_settle_c11 {X : JX} (C : JC X l D (ttf cs) eE b_TL_settle "TollLedger" 5 (Cond.code y_TL_settle b_TL_settle 5 r_TL_settle :: BIG) 4 86 0 0) {res : Int32 × ST} (Rt : JR X (wfm ad cs) 0 0 (PI res.1 res.2) r_TL_settle "settle")  (x1 : Int32) (s1 : Int32) (σ : ST) (hf : TL_settle_c11 x1 s1 σ = some res) : J (wfm ad cs) X 5 0 0 σ 11 [(0, .ref (ad 0)), (1, .int x1)] [.int s1, .ref (ad 0)] := by
  unfold TL_settle_c11 at hf
  obtain ⟨r11, σ11, h11, hf⟩ := o_b2 hf
  refine j_callV (ci := 0) (Cn := "TollLedger") (T := T_TL) (N := 10) C [.int s1] [] (m_TL_charge _ _ _ _ _ s1 σ h11) (gdV wd_2_27 wd_2_29 wp_1 wd_1_1 wc_TL_charge) hy_TL_charge rfl ⟨0, rfl⟩ rfl rfl (by decide) (by decide) (by decide) (by decide) (Nat.le_of_ble_eq_true rfl) d_TL_settle_11 (j_kI (r := r11) (σ1 := σ11) ?_)
  refine j_istore_n C rfl (by decide) (loc' := [(2, .int r11), (0, .ref (ad 0)), (1, .int x1)]) rfl d_TL_settle_14 ?_
  refine j_iload_n C 0 rfl rfl d_TL_settle_15 ?_
  refine j_if_eq C d_TL_settle_16 rfl (fun c16 => ?_) (fun c16 => ?_)
  · have hf := o_it c16 hf
    refine j_aload_n C 1 rfl rfl d_TL_settle_21 ?_
    refine g_TL_state C (List.mem_cons_of_mem _ wd_1_218) d_TL_settle_22 ?_
    refine j_iload_n C 2 rfl rfl d_TL_settle_25 ?_
    obtain ⟨r26, h26, hf⟩ := o_b1 hf
    refine j_callV (ci := 1) (Cn := "TollLedger$State") (T := T_ST) (N := 6) C [.int x1] [] (m_ST_placeOfDeposit _ _ _ _ _ x1 σ11 h26) (gdV wd_3_156 wd_3_157 wd_3_158 wd_1_2 wc_ST_placeOfDeposit) hy_ST_placeOfDeposit rfl ⟨1, rfl⟩ rfl rfl (by decide) (by decide) (by decide) (by decide) (Nat.le_of_ble_eq_true rfl) d_TL_settle_26 (j_kI (r := r26) (σ1 := σ11) ?_)
    refine j_istore_n C rfl (by decide) (loc' := [(3, .int r26), (2, .int r11), (0, .ref (ad 0)), (1, .int x1)]) rfl d_TL_settle_29 ?_
    refine j_iload_n C 0 rfl rfl d_TL_settle_30 ?_
    refine j_iconst C (v := -1) (by decide) d_TL_settle_31 ?_
    refine j_icmp_ne C d_TL_settle_32 rfl (fun c32 => ?_) (fun c32 => ?_)
    · have hf := o_if c32 hf
      refine j_aload_n C 2 rfl rfl d_TL_settle_38 ?_
      refine g_TL_state C (List.mem_cons_of_mem _ wd_1_218) d_TL_settle_39 ?_
      refine g_ST_deposits C (List.mem_cons_of_mem _ wd_1_122) d_TL_settle_42 ?_
      refine j_iload_n C 0 rfl rfl d_TL_settle_45 ?_
      obtain ⟨r46, h46, hf⟩ := o_b1 hf
      refine j_callV (ci := 9) (Cn := "java/util/ArrayList") (T := T_AL) (N := 3) C [.int r26] [] (m_AL_get_DL _ _ _ _ _ r26 σ11 h46) (gdV wd_3_106 wd_2_59 wd_2_60 wd_1_6 wc_AL_get) hy_AL_get rfl ⟨7, rfl⟩ rfl rfl (by decide) (by decide) (by decide) (by decide) (Nat.le_of_ble_eq_true rfl) d_TL_settle_46 (j_kA (r := r46) (σ1 := σ11) ?_)
      obtain ⟨g49, hf⟩ := o_gn hf
      refine cc_Deposit C (Decidable.not_not.mp g49) (List.mem_cons_of_mem _ wd_3_160) d_TL_settle_49 ?_
      refine j_astore C (by decide) (loc' := [(4, .ref r46), (3, .int r26), (2, .int r11), (0, .ref (ad 0)), (1, .int x1)]) rfl d_TL_settle_52 ?_
      refine j_aload_n C 3 rfl rfl d_TL_settle_54 ?_
      refine g_TL_clock C (List.mem_cons_of_mem _ wd_1_226) d_TL_settle_55 ?_
      refine j_aload C 0 rfl d_TL_settle_58 ?_
      refine gp_Deposit_after C (Decidable.not_not.mp g49) (List.mem_cons_of_mem _ wd_3_134) d_TL_settle_60 ?_
      refine j_icmp_ge C d_TL_settle_63 rfl (fun c63 => ?_) (fun c63 => ?_)
      · have hf := o_it c63 hf
        refine j_aload_n C 3 rfl rfl d_TL_settle_69 ?_
        refine g_TL_state C (List.mem_cons_of_mem _ wd_1_218) d_TL_settle_70 ?_
        refine j_aload_n C 3 rfl rfl d_TL_settle_73 ?_
        refine g_TL_clock C (List.mem_cons_of_mem _ wd_1_226) d_TL_settle_74 ?_
        refine j_aload C 0 rfl d_TL_settle_77 ?_
        refine gp_Deposit_until C (Decidable.not_not.mp g49) (List.mem_cons_of_mem _ wd_3_137) d_TL_settle_79 ?_
        refine j_icmp_ge C d_TL_settle_82 rfl (fun c82 => ?_) (fun c82 => ?_)
        · have hf := o_it c82 hf
          refine j_aload C 0 rfl d_TL_settle_93 ?_
          refine gp_Deposit_from C (Decidable.not_not.mp g49) (List.mem_cons_of_mem _ wd_3_126) d_TL_settle_95 ?_
          refine j_sub [3, 1, 0] rfl ?_
          exact w_TL_settle_c98 C Rt  r26 r46 (pP σ11 r46 1) σ11 hf
        · have hf := o_if c82 hf
          refine j_aload C 0 rfl d_TL_settle_85 ?_
          refine gp_Deposit_to C (Decidable.not_not.mp g49) (List.mem_cons_of_mem _ wd_3_128) d_TL_settle_87 ?_
          refine j_goto C d_TL_settle_90 rfl ?_
          refine j_sub [3, 1, 0] rfl ?_
          exact w_TL_settle_c98 C Rt  r26 r46 (pP σ11 r46 2) σ11 hf
      · have hf := o_if c63 hf
        refine j_bipush C (v := 27) (by decide) d_TL_settle_66 ?_
        have hf := Option.some.inj hf
        subst hf
        exact j_iret C Rt (Nat.zero_le _) (Nat.zero_le _) d_TL_settle_68 ⟨rfl, rfl⟩
    · have hf := o_it c32 hf
      refine j_bipush C (v := 26) (by decide) d_TL_settle_35 ?_
      have hf := Option.some.inj hf
      subst hf
      exact j_iret C Rt (Nat.zero_le _) (Nat.zero_le _) d_TL_settle_37 ⟨rfl, rfl⟩
  · have hf := o_if c16 hf
    refine j_iload_n C 0 rfl rfl d_TL_settle_19 ?_
    have hf := Option.some.inj hf
    subst hf
    exact j_iret C Rt (Nat.zero_le _) (Nat.zero_le _) d_TL_settle_20 ⟨rfl, rfl⟩
def TL_settle (x1 : Int32) (σ : ST) : Option (Int32 × ST) :=
  if x1 < (1 : Int32) then (TL_settle_c11 x1 (0 : Int32) σ)
  else (TL_settle_c11 x1 (1 : Int32) σ)
set_option maxRecDepth 100000 in
set_option maxHeartbeats 4000000 in
theorem m_TL_settle (l : Launch) (D : va_G) (ad : Nat → Nat) (cs : Nat → ClassId) (eE : Nat × Nat) (x1 : Int32) (σ : ST) {res : Int32 × ST} (hf : TL_settle x1 σ = some res) : MS l y_TL_settle (Cond.code y_TL_settle b_TL_settle 5 r_TL_settle :: BIG) 4 86 0 0 (wfm ad cs) D (ttf cs) eE [.ref (ad 0), .int x1] σ (PI res.1 res.2) := by
  refine MS.of (cc := b_TL_settle) (maxL := 5) (ret := r_TL_settle) (by decide) rfl (Nat.le_of_ble_eq_true rfl) (loc := [(0, .ref (ad 0)), (1, .int x1)]) rfl (fun X C Rt => ?_)
  unfold TL_settle at hf
  refine j_aload_n C 0 rfl rfl d_TL_settle_0 ?_
  refine j_iload_n C 1 rfl rfl d_TL_settle_1 ?_
  refine j_iconst C (v := 1) (by decide) d_TL_settle_2 ?_
  refine j_icmp_lt C d_TL_settle_3 rfl (fun c3 => ?_) (fun c3 => ?_)
  · have hf := o_it c3 hf
    refine j_iconst C (v := 0) (by decide) d_TL_settle_10 ?_
    exact w_TL_settle_c11 C Rt  x1 (0 : Int32) σ hf
  · have hf := o_if c3 hf
    refine j_iconst C (v := 1) (by decide) d_TL_settle_6 ?_
    refine j_goto C d_TL_settle_7 rfl ?_
    exact w_TL_settle_c11 C Rt  x1 (1 : Int32) σ hf
theorem d_TL_spend_0 : decode b_TL_spend 0 = .ok (.iload_n 1, 1) := by decide +kernel
theorem d_TL_spend_1 : decode b_TL_spend 1 = .ok (.invokestatic 111, 3) := by decide +kernel
theorem d_TL_spend_4 : decode b_TL_spend 4 = .ok (.ifCond .eq 13, 3) := by decide +kernel
theorem d_TL_spend_7 : decode b_TL_spend 7 = .ok (.iload_n 2, 1) := by decide +kernel
theorem d_TL_spend_8 : decode b_TL_spend 8 = .ok (.iconst 1, 1) := by decide +kernel
theorem d_TL_spend_9 : decode b_TL_spend 9 = .ok (.ldc 39, 2) := by decide +kernel
theorem d_TL_spend_11 : decode b_TL_spend 11 = .ok (.invokestatic 47, 3) := by decide +kernel
theorem d_TL_spend_14 : decode b_TL_spend 14 = .ok (.ifCond .ne 5, 3) := by decide +kernel
theorem d_TL_spend_17 : decode b_TL_spend 17 = .ok (.iconst 0, 1) := by decide +kernel
theorem d_TL_spend_18 : decode b_TL_spend 18 = .ok (.ireturn, 1) := by decide +kernel
theorem d_TL_spend_19 : decode b_TL_spend 19 = .ok (.aload_n 0, 1) := by decide +kernel
theorem d_TL_spend_20 : decode b_TL_spend 20 = .ok (.iload_n 1, 1) := by decide +kernel
theorem d_TL_spend_21 : decode b_TL_spend 21 = .ok (.putfield 36, 3) := by decide +kernel
theorem d_TL_spend_24 : decode b_TL_spend 24 = .ok (.aload_n 0, 1) := by decide +kernel
theorem d_TL_spend_25 : decode b_TL_spend 25 = .ok (.iload_n 2, 1) := by decide +kernel
theorem d_TL_spend_26 : decode b_TL_spend 26 = .ok (.putfield 40, 3) := by decide +kernel
theorem d_TL_spend_29 : decode b_TL_spend 29 = .ok (.aload_n 0, 1) := by decide +kernel
theorem d_TL_spend_30 : decode b_TL_spend 30 = .ok (.iload_n 3, 1) := by decide +kernel
theorem d_TL_spend_31 : decode b_TL_spend 31 = .ok (.putfield 114, 3) := by decide +kernel
theorem d_TL_spend_34 : decode b_TL_spend 34 = .ok (.iconst 1, 1) := by decide +kernel
theorem d_TL_spend_35 : decode b_TL_spend 35 = .ok (.ireturn, 1) := by decide +kernel
def TL_spend (x1 : Int32) (x2 : Int32) (x3 : Int32) (σ : ST) : Option (Int32 × ST) :=
  bd1 (TL_isAsset x1) fun r1 =>
  if r1 = 0 then (some ((0 : Int32), σ))
  else (bd1 (TL_isWithin x2 (1 : Int32) (1000000 : Int32)) fun r11 =>
  if r11 = 0 then (some ((0 : Int32), σ))
  else (nmS (sI σ 2 x1) fun σ21 =>
  nmS (sI σ21 3 x2) fun σ26 =>
  if ¬ (x3 = 0 ∨ x3 = 1) then none else
  nmS (sI σ26 4 x3) fun σ31 =>
  some ((1 : Int32), σ31)))
set_option maxRecDepth 100000 in
set_option maxHeartbeats 4000000 in
theorem m_TL_spend (l : Launch) (D : va_G) (ad : Nat → Nat) (cs : Nat → ClassId) (eE : Nat × Nat) (x1 : Int32) (x2 : Int32) (x3 : Int32) (σ : ST) {res : Int32 × ST} (hf : TL_spend x1 x2 x3 σ = some res) : MS l y_TL_spend (Cond.code y_TL_spend b_TL_spend 4 r_TL_spend :: BIG) 2 42 0 0 (wfm ad cs) D (ttf cs) eE [.ref (ad 0), .int x1, .int x2, .int x3] σ (PI res.1 res.2) := by
  refine MS.of (cc := b_TL_spend) (maxL := 4) (ret := r_TL_spend) (by decide) rfl (Nat.le_of_ble_eq_true rfl) (loc := [(0, .ref (ad 0)), (1, .int x1), (2, .int x2), (3, .int x3)]) rfl (fun X C Rt => ?_)
  unfold TL_spend at hf
  refine j_iload_n C 1 rfl rfl d_TL_spend_0 ?_
  obtain ⟨r1, h1, hf⟩ := o_b1 hf
  refine j_callS C [.int x1] [] (m_TL_isAsset _ _ _ _ _ x1 σ h1) (gdS wd_2_115 wd_2_116 wd_1_1 wc_TL_isAsset) hy_TL_isAsset rfl rfl (by decide) (by decide) (by decide) (by decide) (Nat.le_of_ble_eq_true rfl) d_TL_spend_1 (j_kI (r := r1) (σ1 := σ) ?_)
  refine j_if_eq C d_TL_spend_4 rfl (fun c4 => ?_) (fun c4 => ?_)
  · have hf := o_it c4 hf
    refine j_iconst C (v := 0) (by decide) d_TL_spend_17 ?_
    have hf := Option.some.inj hf
    subst hf
    exact j_zret C Rt (by decide) (Nat.zero_le _) (Nat.zero_le _) d_TL_spend_18 ⟨rfl, rfl⟩
  · have hf := o_if c4 hf
    refine j_iload_n C 2 rfl rfl d_TL_spend_7 ?_
    refine j_iconst C (v := 1) (by decide) d_TL_spend_8 ?_
    refine j_ldc C (v := 1000000) (List.mem_cons_of_mem _ wd_1_217) d_TL_spend_9 ?_
    obtain ⟨r11, h11, hf⟩ := o_b1 hf
    refine j_callS C [.int x2, .int (1 : Int32), .int (1000000 : Int32)] [] (m_TL_isWithin _ _ _ _ _ x2 (1 : Int32) (1000000 : Int32) σ h11) (gdS wd_2_16 wd_2_17 wd_1_1 wc_TL_isWithin) hy_TL_isWithin rfl rfl (by decide) (by decide) (by decide) (by decide) (Nat.le_of_ble_eq_true rfl) d_TL_spend_11 (j_kI (r := r11) (σ1 := σ) ?_)
    refine j_if_ne C d_TL_spend_14 rfl (fun c14 => ?_) (fun c14 => ?_)
    · have hf := o_if c14 hf
      refine j_aload_n C 0 rfl rfl d_TL_spend_19 ?_
      refine j_iload_n C 1 rfl rfl d_TL_spend_20 ?_
      obtain ⟨σ21, eσ21, hf⟩ := o_nmS hf
      refine p_TL_spendAsset C eσ21 (List.mem_cons_of_mem _ wd_1_223) d_TL_spend_21 ?_
      refine j_aload_n C 0 rfl rfl d_TL_spend_24 ?_
      refine j_iload_n C 2 rfl rfl d_TL_spend_25 ?_
      obtain ⟨σ26, eσ26, hf⟩ := o_nmS hf
      refine p_TL_spendMax C eσ26 (List.mem_cons_of_mem _ wd_1_224) d_TL_spend_26 ?_
      refine j_aload_n C 0 rfl rfl d_TL_spend_29 ?_
      refine j_iload_n C 3 rfl rfl d_TL_spend_30 ?_
      obtain ⟨g31, hf⟩ := o_gn hf
      obtain ⟨σ31, eσ31, hf⟩ := o_nmS hf
      refine p_TL_spendPartial C (Decidable.not_not.mp g31) eσ31 (List.mem_cons_of_mem _ wd_1_225) d_TL_spend_31 ?_
      refine j_iconst C (v := 1) (by decide) d_TL_spend_34 ?_
      have hf := Option.some.inj hf
      subst hf
      exact j_zret C Rt (by decide) (Nat.zero_le _) (Nat.zero_le _) d_TL_spend_35 ⟨rfl, rfl⟩
    · have hf := o_it c14 hf
      refine j_iconst C (v := 0) (by decide) d_TL_spend_17 ?_
      have hf := Option.some.inj hf
      subst hf
      exact j_zret C Rt (by decide) (Nat.zero_le _) (Nat.zero_le _) d_TL_spend_18 ⟨rfl, rfl⟩
theorem d_TL_tick_0 : decode b_TL_tick 0 = .ok (.iload_n 1, 1) := by decide +kernel
theorem d_TL_tick_1 : decode b_TL_tick 1 = .ok (.iconst 0, 1) := by decide +kernel
theorem d_TL_tick_2 : decode b_TL_tick 2 = .ok (.sipush 1000, 3) := by decide +kernel
theorem d_TL_tick_5 : decode b_TL_tick 5 = .ok (.invokestatic 47, 3) := by decide +kernel
theorem d_TL_tick_8 : decode b_TL_tick 8 = .ok (.ifCond .eq 13, 3) := by decide +kernel
theorem d_TL_tick_11 : decode b_TL_tick 11 = .ok (.aload_n 0, 1) := by decide +kernel
theorem d_TL_tick_12 : decode b_TL_tick 12 = .ok (.dup, 1) := by decide +kernel
theorem d_TL_tick_13 : decode b_TL_tick 13 = .ok (.getfield 194, 3) := by decide +kernel
theorem d_TL_tick_16 : decode b_TL_tick 16 = .ok (.iload_n 1, 1) := by decide +kernel
theorem d_TL_tick_17 : decode b_TL_tick 17 = .ok (.iadd, 1) := by decide +kernel
theorem d_TL_tick_18 : decode b_TL_tick 18 = .ok (.putfield 194, 3) := by decide +kernel
theorem d_TL_tick_21 : decode b_TL_tick 21 = .ok (.aload_n 0, 1) := by decide +kernel
theorem d_TL_tick_22 : decode b_TL_tick 22 = .ok (.getfield 194, 3) := by decide +kernel
theorem d_TL_tick_25 : decode b_TL_tick 25 = .ok (.ireturn, 1) := by decide +kernel
def TL_tick (x1 : Int32) (σ : ST) : Option (Int32 × ST) :=
  bd1 (TL_isWithin x1 (0 : Int32) (1000 : Int32)) fun r5 =>
  if r5 = 0 then (some ((gI σ 5), σ))
  else (nmS (sI σ 5 ((gI σ 5) + x1)) fun σ18 =>
  some ((gI σ18 5), σ18))
set_option maxRecDepth 100000 in
set_option maxHeartbeats 4000000 in
theorem m_TL_tick (l : Launch) (D : va_G) (ad : Nat → Nat) (cs : Nat → ClassId) (eE : Nat × Nat) (x1 : Int32) (σ : ST) {res : Int32 × ST} (hf : TL_tick x1 σ = some res) : MS l y_TL_tick (Cond.code y_TL_tick b_TL_tick 2 r_TL_tick :: BIG) 1 22 0 0 (wfm ad cs) D (ttf cs) eE [.ref (ad 0), .int x1] σ (PI res.1 res.2) := by
  refine MS.of (cc := b_TL_tick) (maxL := 2) (ret := r_TL_tick) (by decide) rfl (Nat.le_of_ble_eq_true rfl) (loc := [(0, .ref (ad 0)), (1, .int x1)]) rfl (fun X C Rt => ?_)
  unfold TL_tick at hf
  refine j_iload_n C 1 rfl rfl d_TL_tick_0 ?_
  refine j_iconst C (v := 0) (by decide) d_TL_tick_1 ?_
  refine j_sipush C (v := 1000) (by decide) d_TL_tick_2 ?_
  obtain ⟨r5, h5, hf⟩ := o_b1 hf
  refine j_callS C [.int x1, .int (0 : Int32), .int (1000 : Int32)] [] (m_TL_isWithin _ _ _ _ _ x1 (0 : Int32) (1000 : Int32) σ h5) (gdS wd_2_16 wd_2_17 wd_1_1 wc_TL_isWithin) hy_TL_isWithin rfl rfl (by decide) (by decide) (by decide) (by decide) (Nat.le_of_ble_eq_true rfl) d_TL_tick_5 (j_kI (r := r5) (σ1 := σ) ?_)
  refine j_if_eq C d_TL_tick_8 rfl (fun c8 => ?_) (fun c8 => ?_)
  · have hf := o_it c8 hf
    refine j_aload_n C 0 rfl rfl d_TL_tick_21 ?_
    refine g_TL_clock C (List.mem_cons_of_mem _ wd_1_226) d_TL_tick_22 ?_
    have hf := Option.some.inj hf
    subst hf
    exact j_iret C Rt (Nat.zero_le _) (Nat.zero_le _) d_TL_tick_25 ⟨rfl, rfl⟩
  · have hf := o_if c8 hf
    refine j_aload_n C 0 rfl rfl d_TL_tick_11 ?_
    refine j_dup C rfl d_TL_tick_12 ?_
    refine g_TL_clock C (List.mem_cons_of_mem _ wd_1_226) d_TL_tick_13 ?_
    refine j_iload_n C 1 rfl rfl d_TL_tick_16 ?_
    refine j_iadd C d_TL_tick_17 ?_
    obtain ⟨σ18, eσ18, hf⟩ := o_nmS hf
    refine p_TL_clock C eσ18 (List.mem_cons_of_mem _ wd_1_226) d_TL_tick_18 ?_
    refine j_aload_n C 0 rfl rfl d_TL_tick_21 ?_
    refine g_TL_clock C (List.mem_cons_of_mem _ wd_1_226) d_TL_tick_22 ?_
    have hf := Option.some.inj hf
    subst hf
    exact j_iret C Rt (Nat.zero_le _) (Nat.zero_le _) d_TL_tick_25 ⟨rfl, rfl⟩
theorem d_TL_trust_0 : decode b_TL_trust 0 = .ok (.aload_n 0, 1) := by decide +kernel
theorem d_TL_trust_1 : decode b_TL_trust 1 = .ok (.aload_n 0, 1) := by decide +kernel
theorem d_TL_trust_2 : decode b_TL_trust 2 = .ok (.iload_n 1, 1) := by decide +kernel
theorem d_TL_trust_3 : decode b_TL_trust 3 = .ok (.invokevirtual 54, 3) := by decide +kernel
theorem d_TL_trust_6 : decode b_TL_trust 6 = .ok (.ifCond .eq 24, 3) := by decide +kernel
theorem d_TL_trust_9 : decode b_TL_trust 9 = .ok (.iload_n 2, 1) := by decide +kernel
theorem d_TL_trust_10 : decode b_TL_trust 10 = .ok (.invokestatic 79, 3) := by decide +kernel
theorem d_TL_trust_13 : decode b_TL_trust 13 = .ok (.ifCond .eq 17, 3) := by decide +kernel
theorem d_TL_trust_16 : decode b_TL_trust 16 = .ok (.iload_n 3, 1) := by decide +kernel
theorem d_TL_trust_17 : decode b_TL_trust 17 = .ok (.iconst 0, 1) := by decide +kernel
theorem d_TL_trust_18 : decode b_TL_trust 18 = .ok (.ldc 82, 2) := by decide +kernel
theorem d_TL_trust_20 : decode b_TL_trust 20 = .ok (.invokestatic 47, 3) := by decide +kernel
theorem d_TL_trust_23 : decode b_TL_trust 23 = .ok (.ifCond .eq 7, 3) := by decide +kernel
theorem d_TL_trust_26 : decode b_TL_trust 26 = .ok (.iconst 1, 1) := by decide +kernel
theorem d_TL_trust_27 : decode b_TL_trust 27 = .ok (.goto 4, 3) := by decide +kernel
theorem d_TL_trust_30 : decode b_TL_trust 30 = .ok (.iconst 0, 1) := by decide +kernel
theorem d_TL_trust_31 : decode b_TL_trust 31 = .ok (.invokevirtual 57, 3) := by decide +kernel
theorem d_TL_trust_34 : decode b_TL_trust 34 = .ok (.istore 5, 2) := by decide +kernel
theorem d_TL_trust_36 : decode b_TL_trust 36 = .ok (.iload 5, 2) := by decide +kernel
theorem d_TL_trust_38 : decode b_TL_trust 38 = .ok (.ifCond .eq 6, 3) := by decide +kernel
theorem d_TL_trust_41 : decode b_TL_trust 41 = .ok (.iload 5, 2) := by decide +kernel
theorem d_TL_trust_43 : decode b_TL_trust 43 = .ok (.ireturn, 1) := by decide +kernel
theorem d_TL_trust_44 : decode b_TL_trust 44 = .ok (.aload_n 0, 1) := by decide +kernel
theorem d_TL_trust_45 : decode b_TL_trust 45 = .ok (.getfield 10, 3) := by decide +kernel
theorem d_TL_trust_48 : decode b_TL_trust 48 = .ok (.getfield 61, 3) := by decide +kernel
theorem d_TL_trust_51 : decode b_TL_trust 51 = .ok (.iload_n 1, 1) := by decide +kernel
theorem d_TL_trust_52 : decode b_TL_trust 52 = .ok (.aaload, 1) := by decide +kernel
theorem d_TL_trust_53 : decode b_TL_trust 53 = .ok (.getfield 65, 3) := by decide +kernel
theorem d_TL_trust_56 : decode b_TL_trust 56 = .ok (.ifCond .ne 6, 3) := by decide +kernel
theorem d_TL_trust_59 : decode b_TL_trust 59 = .ok (.bipush 21, 2) := by decide +kernel
theorem d_TL_trust_61 : decode b_TL_trust 61 = .ok (.ireturn, 1) := by decide +kernel
theorem d_TL_trust_62 : decode b_TL_trust 62 = .ok (.aload_n 0, 1) := by decide +kernel
theorem d_TL_trust_63 : decode b_TL_trust 63 = .ok (.getfield 32, 3) := by decide +kernel
theorem d_TL_trust_66 : decode b_TL_trust 66 = .ok (.iload_n 1, 1) := by decide +kernel
theorem d_TL_trust_67 : decode b_TL_trust 67 = .ok (.iload_n 2, 1) := by decide +kernel
theorem d_TL_trust_68 : decode b_TL_trust 68 = .ok (.invokestatic 83, 3) := by decide +kernel
theorem d_TL_trust_71 : decode b_TL_trust 71 = .ok (.istore 6, 2) := by decide +kernel
theorem d_TL_trust_73 : decode b_TL_trust 73 = .ok (.iload_n 3, 1) := by decide +kernel
theorem d_TL_trust_74 : decode b_TL_trust 74 = .ok (.ifCond .le 22, 3) := by decide +kernel
theorem d_TL_trust_77 : decode b_TL_trust 77 = .ok (.aload_n 0, 1) := by decide +kernel
theorem d_TL_trust_78 : decode b_TL_trust 78 = .ok (.getfield 10, 3) := by decide +kernel
theorem d_TL_trust_81 : decode b_TL_trust 81 = .ok (.getfield 89, 3) := by decide +kernel
theorem d_TL_trust_84 : decode b_TL_trust 84 = .ok (.iload 6, 2) := by decide +kernel
theorem d_TL_trust_86 : decode b_TL_trust 86 = .ok (.invokevirtual 93, 3) := by decide +kernel
theorem d_TL_trust_89 : decode b_TL_trust 89 = .ok (.ifCond .ne 7, 3) := by decide +kernel
theorem d_TL_trust_92 : decode b_TL_trust 92 = .ok (.iconst 1, 1) := by decide +kernel
theorem d_TL_trust_93 : decode b_TL_trust 93 = .ok (.goto 4, 3) := by decide +kernel
theorem d_TL_trust_96 : decode b_TL_trust 96 = .ok (.iconst 0, 1) := by decide +kernel
theorem d_TL_trust_97 : decode b_TL_trust 97 = .ok (.istore 7, 2) := by decide +kernel
theorem d_TL_trust_99 : decode b_TL_trust 99 = .ok (.iload 7, 2) := by decide +kernel
theorem d_TL_trust_101 : decode b_TL_trust 101 = .ok (.ifCond .eq 21, 3) := by decide +kernel
theorem d_TL_trust_104 : decode b_TL_trust 104 = .ok (.aload_n 0, 1) := by decide +kernel
theorem d_TL_trust_105 : decode b_TL_trust 105 = .ok (.getfield 10, 3) := by decide +kernel
theorem d_TL_trust_108 : decode b_TL_trust 108 = .ok (.aload_n 0, 1) := by decide +kernel
theorem d_TL_trust_109 : decode b_TL_trust 109 = .ok (.getfield 32, 3) := by decide +kernel
theorem d_TL_trust_112 : decode b_TL_trust 112 = .ok (.iconst 0, 1) := by decide +kernel
theorem d_TL_trust_113 : decode b_TL_trust 113 = .ok (.invokevirtual 96, 3) := by decide +kernel
theorem d_TL_trust_116 : decode b_TL_trust 116 = .ok (.ifCond .ne 6, 3) := by decide +kernel
theorem d_TL_trust_119 : decode b_TL_trust 119 = .ok (.bipush 23, 2) := by decide +kernel
theorem d_TL_trust_121 : decode b_TL_trust 121 = .ok (.ireturn, 1) := by decide +kernel
theorem d_TL_trust_122 : decode b_TL_trust 122 = .ok (.aload_n 0, 1) := by decide +kernel
theorem d_TL_trust_123 : decode b_TL_trust 123 = .ok (.getfield 10, 3) := by decide +kernel
theorem d_TL_trust_126 : decode b_TL_trust 126 = .ok (.getfield 89, 3) := by decide +kernel
theorem d_TL_trust_129 : decode b_TL_trust 129 = .ok (.getfield 100, 3) := by decide +kernel
theorem d_TL_trust_132 : decode b_TL_trust 132 = .ok (.iload 6, 2) := by decide +kernel
theorem d_TL_trust_134 : decode b_TL_trust 134 = .ok (.iload_n 3, 1) := by decide +kernel
theorem d_TL_trust_135 : decode b_TL_trust 135 = .ok (.iastore, 1) := by decide +kernel
theorem d_TL_trust_136 : decode b_TL_trust 136 = .ok (.aload_n 0, 1) := by decide +kernel
theorem d_TL_trust_137 : decode b_TL_trust 137 = .ok (.getfield 10, 3) := by decide +kernel
theorem d_TL_trust_140 : decode b_TL_trust 140 = .ok (.getfield 89, 3) := by decide +kernel
theorem d_TL_trust_143 : decode b_TL_trust 143 = .ok (.getfield 104, 3) := by decide +kernel
theorem d_TL_trust_146 : decode b_TL_trust 146 = .ok (.iload 6, 2) := by decide +kernel
theorem d_TL_trust_148 : decode b_TL_trust 148 = .ok (.iload 4, 2) := by decide +kernel
theorem d_TL_trust_150 : decode b_TL_trust 150 = .ok (.bastore, 1) := by decide +kernel
theorem d_TL_trust_151 : decode b_TL_trust 151 = .ok (.iconst 0, 1) := by decide +kernel
theorem d_TL_trust_152 : decode b_TL_trust 152 = .ok (.ireturn, 1) := by decide +kernel
def TL_trust_c122 (x3 : Int32) (x4 : Int32) (x6 : Int32) (σ : ST) : Option (Int32 × ST) :=
  if x6 < 0 ∨ 72 ≤ x6.toNatClampNeg then none else
  nmS (sA σ 1 x6.toNatClampNeg x3) fun σ135 =>
  if ¬ (x4 = 0 ∨ x4 = 1) then none else
  nmS (sA σ135 2 x6.toNatClampNeg x4) fun σ150 =>
  some ((0 : Int32), σ150)
set_option maxRecDepth 100000 in
set_option maxHeartbeats 4000000 in
theorem w_TL_trust_c122 {X : JX} (C : JC X l D (ttf cs) eE b_TL_trust "TollLedger" 8 (Cond.code y_TL_trust b_TL_trust 8 r_TL_trust :: BIG) 6 130 0 0) {res : Int32 × ST} (Rt : JR X (wfm ad cs) 0 0 (PI res.1 res.2) r_TL_trust "trust")  (x3 : Int32) (x4 : Int32) (x6 : Int32) (σ : ST) (hf : TL_trust_c122 x3 x4 x6 σ = some res) : J (wfm ad cs) X 8 0 0 σ 122 [(0, .ref (ad 0)), (3, .int x3), (4, .int x4), (6, .int x6)] [] := by
  unfold TL_trust_c122 at hf
  refine j_aload_n C 0 rfl rfl d_TL_trust_122 ?_
  refine g_TL_state C (List.mem_cons_of_mem _ wd_1_218) d_TL_trust_123 ?_
  refine g_ST_lines C (List.mem_cons_of_mem _ wd_1_115) d_TL_trust_126 ?_
  refine g_LN_limits C (List.mem_cons_of_mem _ wd_1_46) d_TL_trust_129 ?_
  refine j_iload C 3 rfl d_TL_trust_132 ?_
  refine j_iload_n C 1 rfl rfl d_TL_trust_134 ?_
  obtain ⟨g135, hf⟩ := o_gn hf
  obtain ⟨σ135, eσ135, hf⟩ := o_nmS hf
  refine sa_lim C g135 eσ135 d_TL_trust_135 ?_
  refine j_aload_n C 0 rfl rfl d_TL_trust_136 ?_
  refine g_TL_state C (List.mem_cons_of_mem _ wd_1_218) d_TL_trust_137 ?_
  refine g_ST_lines C (List.mem_cons_of_mem _ wd_1_115) d_TL_trust_140 ?_
  refine g_LN_quiets C (List.mem_cons_of_mem _ wd_1_48) d_TL_trust_143 ?_
  refine j_iload C 3 rfl d_TL_trust_146 ?_
  refine j_iload C 2 rfl d_TL_trust_148 ?_
  obtain ⟨g150, hf⟩ := o_gn hf
  obtain ⟨σ150, eσ150, hf⟩ := o_nmS hf
  refine sa_qui C (Decidable.not_not.mp g150) g135 eσ150 d_TL_trust_150 ?_
  refine j_iconst C (v := 0) (by decide) d_TL_trust_151 ?_
  have hf := Option.some.inj hf
  subst hf
  exact j_iret C Rt (Nat.zero_le _) (Nat.zero_le _) d_TL_trust_152 ⟨rfl, rfl⟩
def TL_trust_c97 (x3 : Int32) (x4 : Int32) (x6 : Int32) (s0 : Int32) (σ : ST) : Option (Int32 × ST) :=
  if s0 = 0 then (TL_trust_c122 x3 x4 x6 σ)
  else (bd1 (ST_affordsOneMore (gI σ 0) (0 : Int32) σ) fun r113 =>
  if r113 = 0 then (some ((23 : Int32), σ))
  else (TL_trust_c122 x3 x4 x6 σ))
set_option maxRecDepth 100000 in
set_option maxHeartbeats 4000000 in
theorem w_TL_trust_c97 {X : JX} (C : JC X l D (ttf cs) eE b_TL_trust "TollLedger" 8 (Cond.code y_TL_trust b_TL_trust 8 r_TL_trust :: BIG) 6 130 0 0) {res : Int32 × ST} (Rt : JR X (wfm ad cs) 0 0 (PI res.1 res.2) r_TL_trust "trust")  (x3 : Int32) (x4 : Int32) (x6 : Int32) (s0 : Int32) (σ : ST) (hf : TL_trust_c97 x3 x4 x6 s0 σ = some res) : J (wfm ad cs) X 8 0 0 σ 97 [(0, .ref (ad 0)), (3, .int x3), (4, .int x4), (6, .int x6)] [.int s0] := by
  unfold TL_trust_c97 at hf
  refine j_istore C (by decide) (loc' := [(7, .int s0), (0, .ref (ad 0)), (3, .int x3), (4, .int x4), (6, .int x6)]) rfl d_TL_trust_97 ?_
  refine j_iload C 0 rfl d_TL_trust_99 ?_
  refine j_if_eq C d_TL_trust_101 rfl (fun c101 => ?_) (fun c101 => ?_)
  · have hf := o_it c101 hf
    refine j_sub [1, 2, 3, 4] rfl ?_
    exact w_TL_trust_c122 C Rt  x3 x4 x6 σ hf
  · have hf := o_if c101 hf
    refine j_aload_n C 1 rfl rfl d_TL_trust_104 ?_
    refine g_TL_state C (List.mem_cons_of_mem _ wd_1_218) d_TL_trust_105 ?_
    refine j_aload_n C 1 rfl rfl d_TL_trust_108 ?_
    refine g_TL_signer C (List.mem_cons_of_mem _ wd_1_221) d_TL_trust_109 ?_
    refine j_iconst C (v := 0) (by decide) d_TL_trust_112 ?_
    obtain ⟨r113, h113, hf⟩ := o_b1 hf
    refine j_callV (ci := 1) (Cn := "TollLedger$State") (T := T_ST) (N := 6) C [.int (gI σ 0), .int (0 : Int32)] [] (m_ST_affordsOneMore _ _ _ _ _ (gI σ 0) (0 : Int32) σ h113) (gdV wd_2_103 wd_2_104 wd_2_105 wd_1_2 wc_ST_affordsOneMore) hy_ST_affordsOneMore rfl ⟨1, rfl⟩ rfl rfl (by decide) (by decide) (by decide) (by decide) (Nat.le_of_ble_eq_true rfl) d_TL_trust_113 (j_kI (r := r113) (σ1 := σ) ?_)
    refine j_if_ne C d_TL_trust_116 rfl (fun c116 => ?_) (fun c116 => ?_)
    · have hf := o_if c116 hf
      refine j_sub [1, 2, 3, 4] rfl ?_
      exact w_TL_trust_c122 C Rt  x3 x4 x6 σ hf
    · have hf := o_it c116 hf
      refine j_bipush C (v := 23) (by decide) d_TL_trust_119 ?_
      have hf := Option.some.inj hf
      subst hf
      exact j_iret C Rt (Nat.zero_le _) (Nat.zero_le _) d_TL_trust_121 ⟨rfl, rfl⟩
def TL_trust_c31 (x1 : Int32) (x2 : Int32) (x3 : Int32) (x4 : Int32) (s1 : Int32) (σ : ST) : Option (Int32 × ST) :=
  bd2 (TL_charge s1 σ) fun r31 σ31 =>
  if r31 = 0 then (if x1 < 0 ∨ 6 ≤ x1.toNatClampNeg then none else
  bd1 (gR σ31 0 x1.toNatClampNeg) fun q52 =>
  if ¬ (q52 ∈ pL σ31 ∧ pK σ31 q52 = 1) then none else
  if (pP σ31 q52 0) = 0 then (some ((21 : Int32), σ31))
  else (bd1 (LN_side (gI σ31 0) x1 x2) fun r68 =>
  if x3 ≤ 0 then (TL_trust_c97 x3 x4 r68 (0 : Int32) σ31)
  else (bd1 (LN_isPiece r68 σ31) fun r86 =>
  if r86 = 0 then (TL_trust_c97 x3 x4 r68 (1 : Int32) σ31)
  else (TL_trust_c97 x3 x4 r68 (0 : Int32) σ31))))
  else (some (r31, σ31))
set_option maxRecDepth 100000 in
set_option maxHeartbeats 4000000 in
theorem w_TL_trust_c31 {X : JX} (C : JC X l D (ttf cs) eE b_TL_trust "TollLedger" 8 (Cond.code y_TL_trust b_TL_trust 8 r_TL_trust :: BIG) 6 130 0 0) {res : Int32 × ST} (Rt : JR X (wfm ad cs) 0 0 (PI res.1 res.2) r_TL_trust "trust")  (x1 : Int32) (x2 : Int32) (x3 : Int32) (x4 : Int32) (s1 : Int32) (σ : ST) (hf : TL_trust_c31 x1 x2 x3 x4 s1 σ = some res) : J (wfm ad cs) X 8 0 0 σ 31 [(0, .ref (ad 0)), (1, .int x1), (2, .int x2), (3, .int x3), (4, .int x4)] [.int s1, .ref (ad 0)] := by
  unfold TL_trust_c31 at hf
  obtain ⟨r31, σ31, h31, hf⟩ := o_b2 hf
  refine j_callV (ci := 0) (Cn := "TollLedger") (T := T_TL) (N := 10) C [.int s1] [] (m_TL_charge _ _ _ _ _ s1 σ h31) (gdV wd_2_27 wd_2_29 wp_1 wd_1_1 wc_TL_charge) hy_TL_charge rfl ⟨0, rfl⟩ rfl rfl (by decide) (by decide) (by decide) (by decide) (Nat.le_of_ble_eq_true rfl) d_TL_trust_31 (j_kI (r := r31) (σ1 := σ31) ?_)
  refine j_istore C (by decide) (loc' := [(5, .int r31), (0, .ref (ad 0)), (1, .int x1), (2, .int x2), (3, .int x3), (4, .int x4)]) rfl d_TL_trust_34 ?_
  refine j_iload C 0 rfl d_TL_trust_36 ?_
  refine j_if_eq C d_TL_trust_38 rfl (fun c38 => ?_) (fun c38 => ?_)
  · have hf := o_it c38 hf
    refine j_aload_n C 1 rfl rfl d_TL_trust_44 ?_
    refine g_TL_state C (List.mem_cons_of_mem _ wd_1_218) d_TL_trust_45 ?_
    refine g_ST_accounts C (List.mem_cons_of_mem _ wd_1_112) d_TL_trust_48 ?_
    refine j_iload_n C 2 rfl rfl d_TL_trust_51 ?_
    obtain ⟨g52, hf⟩ := o_gn hf
    obtain ⟨q52, hq52, hf⟩ := o_b1 hf
    refine la_acc C g52 hq52 d_TL_trust_52 ?_
    obtain ⟨g53, hf⟩ := o_gn hf
    refine gp_Account_exists C (Decidable.not_not.mp g53) (List.mem_cons_of_mem _ wd_1_91) d_TL_trust_53 ?_
    refine j_if_ne C d_TL_trust_56 rfl (fun c56 => ?_) (fun c56 => ?_)
    · have hf := o_if c56 hf
      refine j_aload_n C 1 rfl rfl d_TL_trust_62 ?_
      refine g_TL_signer C (List.mem_cons_of_mem _ wd_1_221) d_TL_trust_63 ?_
      refine j_iload_n C 2 rfl rfl d_TL_trust_66 ?_
      refine j_iload_n C 3 rfl rfl d_TL_trust_67 ?_
      obtain ⟨r68, h68, hf⟩ := o_b1 hf
      refine j_callS C [.int (gI σ31 0), .int x1, .int x2] [] (m_LN_side _ _ _ _ _ (gI σ31 0) x1 x2 σ31 h68) (gdS wd_2_101 wd_2_48 wd_1_3 wc_LN_side) hy_LN_side rfl rfl (by decide) (by decide) (by decide) (by decide) (Nat.le_of_ble_eq_true rfl) d_TL_trust_68 (j_kI (r := r68) (σ1 := σ31) ?_)
      refine j_istore C (by decide) (loc' := [(6, .int r68), (5, .int r31), (0, .ref (ad 0)), (1, .int x1), (2, .int x2), (3, .int x3), (4, .int x4)]) rfl d_TL_trust_71 ?_
      refine j_iload_n C 5 rfl rfl d_TL_trust_73 ?_
      refine j_if_le C d_TL_trust_74 rfl (fun c74 => ?_) (fun c74 => ?_)
      · have hf := o_it c74 hf
        refine j_iconst C (v := 0) (by decide) d_TL_trust_96 ?_
        refine j_sub [2, 5, 6, 0] rfl ?_
        exact w_TL_trust_c97 C Rt  x3 x4 r68 (0 : Int32) σ31 hf
      · have hf := o_if c74 hf
        refine j_aload_n C 2 rfl rfl d_TL_trust_77 ?_
        refine g_TL_state C (List.mem_cons_of_mem _ wd_1_218) d_TL_trust_78 ?_
        refine g_ST_lines C (List.mem_cons_of_mem _ wd_1_115) d_TL_trust_81 ?_
        refine j_iload C 0 rfl d_TL_trust_84 ?_
        obtain ⟨r86, h86, hf⟩ := o_b1 hf
        refine j_callV (ci := 2) (Cn := "TollLedger$Lines") (T := T_LN) (N := 3) C [.int r68] [] (m_LN_isPiece _ _ _ _ _ r68 σ31 h86) (gdV wd_2_102 wd_2_51 wd_2_52 wd_1_3 wc_LN_isPiece) hy_LN_isPiece rfl ⟨2, rfl⟩ rfl rfl (by decide) (by decide) (by decide) (by decide) (Nat.le_of_ble_eq_true rfl) d_TL_trust_86 (j_kI (r := r86) (σ1 := σ31) ?_)
        refine j_if_ne C d_TL_trust_89 rfl (fun c89 => ?_) (fun c89 => ?_)
        · have hf := o_if c89 hf
          refine j_iconst C (v := 0) (by decide) d_TL_trust_96 ?_
          refine j_sub [2, 5, 6, 0] rfl ?_
          exact w_TL_trust_c97 C Rt  x3 x4 r68 (0 : Int32) σ31 hf
        · have hf := o_it c89 hf
          refine j_iconst C (v := 1) (by decide) d_TL_trust_92 ?_
          refine j_goto C d_TL_trust_93 rfl ?_
          refine j_sub [2, 5, 6, 0] rfl ?_
          exact w_TL_trust_c97 C Rt  x3 x4 r68 (1 : Int32) σ31 hf
    · have hf := o_it c56 hf
      refine j_bipush C (v := 21) (by decide) d_TL_trust_59 ?_
      have hf := Option.some.inj hf
      subst hf
      exact j_iret C Rt (Nat.zero_le _) (Nat.zero_le _) d_TL_trust_61 ⟨rfl, rfl⟩
  · have hf := o_if c38 hf
    refine j_iload C 0 rfl d_TL_trust_41 ?_
    have hf := Option.some.inj hf
    subst hf
    exact j_iret C Rt (Nat.zero_le _) (Nat.zero_le _) d_TL_trust_43 ⟨rfl, rfl⟩
def TL_trust (x1 : Int32) (x2 : Int32) (x3 : Int32) (x4 : Int32) (σ : ST) : Option (Int32 × ST) :=
  bd1 (TL_isOther x1 σ) fun r3 =>
  if r3 = 0 then (TL_trust_c31 x1 x2 x3 x4 (0 : Int32) σ)
  else (bd1 (TL_isCurrency x2) fun r10 =>
  if r10 = 0 then (TL_trust_c31 x1 x2 x3 x4 (0 : Int32) σ)
  else (bd1 (TL_isWithin x3 (0 : Int32) (100000 : Int32)) fun r20 =>
  if r20 = 0 then (TL_trust_c31 x1 x2 x3 x4 (0 : Int32) σ)
  else (TL_trust_c31 x1 x2 x3 x4 (1 : Int32) σ)))
set_option maxRecDepth 100000 in
set_option maxHeartbeats 4000000 in
theorem m_TL_trust (l : Launch) (D : va_G) (ad : Nat → Nat) (cs : Nat → ClassId) (eE : Nat × Nat) (x1 : Int32) (x2 : Int32) (x3 : Int32) (x4 : Int32) (σ : ST) {res : Int32 × ST} (hf : TL_trust x1 x2 x3 x4 σ = some res) : MS l y_TL_trust (Cond.code y_TL_trust b_TL_trust 8 r_TL_trust :: BIG) 6 130 0 0 (wfm ad cs) D (ttf cs) eE [.ref (ad 0), .int x1, .int x2, .int x3, .int x4] σ (PI res.1 res.2) := by
  refine MS.of (cc := b_TL_trust) (maxL := 8) (ret := r_TL_trust) (by decide) rfl (Nat.le_of_ble_eq_true rfl) (loc := [(0, .ref (ad 0)), (1, .int x1), (2, .int x2), (3, .int x3), (4, .int x4)]) rfl (fun X C Rt => ?_)
  unfold TL_trust at hf
  refine j_aload_n C 0 rfl rfl d_TL_trust_0 ?_
  refine j_aload_n C 0 rfl rfl d_TL_trust_1 ?_
  refine j_iload_n C 1 rfl rfl d_TL_trust_2 ?_
  obtain ⟨r3, h3, hf⟩ := o_b1 hf
  refine j_callV (ci := 0) (Cn := "TollLedger") (T := T_TL) (N := 10) C [.int x1] [.ref (ad 0)] (m_TL_isOther _ _ _ _ _ x1 σ h3) (gdV wd_2_23 wd_2_25 wp_0 wd_1_1 wc_TL_isOther) hy_TL_isOther rfl ⟨0, rfl⟩ rfl rfl (by decide) (by decide) (by decide) (by decide) (Nat.le_of_ble_eq_true rfl) d_TL_trust_3 (j_kI (r := r3) (σ1 := σ) ?_)
  refine j_if_eq C d_TL_trust_6 rfl (fun c6 => ?_) (fun c6 => ?_)
  · have hf := o_it c6 hf
    refine j_iconst C (v := 0) (by decide) d_TL_trust_30 ?_
    exact w_TL_trust_c31 C Rt  x1 x2 x3 x4 (0 : Int32) σ hf
  · have hf := o_if c6 hf
    refine j_iload_n C 2 rfl rfl d_TL_trust_9 ?_
    obtain ⟨r10, h10, hf⟩ := o_b1 hf
    refine j_callS C [.int x2] [.ref (ad 0)] (m_TL_isCurrency _ _ _ _ _ x2 σ h10) (gdS wd_2_97 wd_2_98 wd_1_1 wc_TL_isCurrency) hy_TL_isCurrency rfl rfl (by decide) (by decide) (by decide) (by decide) (Nat.le_of_ble_eq_true rfl) d_TL_trust_10 (j_kI (r := r10) (σ1 := σ) ?_)
    refine j_if_eq C d_TL_trust_13 rfl (fun c13 => ?_) (fun c13 => ?_)
    · have hf := o_it c13 hf
      refine j_iconst C (v := 0) (by decide) d_TL_trust_30 ?_
      exact w_TL_trust_c31 C Rt  x1 x2 x3 x4 (0 : Int32) σ hf
    · have hf := o_if c13 hf
      refine j_iload_n C 3 rfl rfl d_TL_trust_16 ?_
      refine j_iconst C (v := 0) (by decide) d_TL_trust_17 ?_
      refine j_ldc C (v := 100000) (List.mem_cons_of_mem _ wd_2_100) d_TL_trust_18 ?_
      obtain ⟨r20, h20, hf⟩ := o_b1 hf
      refine j_callS C [.int x3, .int (0 : Int32), .int (100000 : Int32)] [.ref (ad 0)] (m_TL_isWithin _ _ _ _ _ x3 (0 : Int32) (100000 : Int32) σ h20) (gdS wd_2_16 wd_2_17 wd_1_1 wc_TL_isWithin) hy_TL_isWithin rfl rfl (by decide) (by decide) (by decide) (by decide) (Nat.le_of_ble_eq_true rfl) d_TL_trust_20 (j_kI (r := r20) (σ1 := σ) ?_)
      refine j_if_eq C d_TL_trust_23 rfl (fun c23 => ?_) (fun c23 => ?_)
      · have hf := o_it c23 hf
        refine j_iconst C (v := 0) (by decide) d_TL_trust_30 ?_
        exact w_TL_trust_c31 C Rt  x1 x2 x3 x4 (0 : Int32) σ hf
      · have hf := o_if c23 hf
        refine j_iconst C (v := 1) (by decide) d_TL_trust_26 ?_
        refine j_goto C d_TL_trust_27 rfl ?_
        exact w_TL_trust_c31 C Rt  x1 x2 x3 x4 (1 : Int32) σ hf
end
