section
variable {l : Launch} {D : va_G} {ad : Nat → Nat} {cs : Nat → ClassId} {eE : Nat × Nat}
theorem d_AC_leaf_0 : decode b_AC_leaf 0 = .ok (.aload_n 0, 1) := by decide +kernel
theorem d_AC_leaf_1 : decode b_AC_leaf 1 = .ok (.getfield 13, 3) := by decide +kernel
theorem d_AC_leaf_4 : decode b_AC_leaf 4 = .ok (.ifCond .eq 27, 3) := by decide +kernel
theorem d_AC_leaf_7 : decode b_AC_leaf 7 = .ok (.aload_n 0, 1) := by decide +kernel
theorem d_AC_leaf_8 : decode b_AC_leaf 8 = .ok (.getfield 17, 3) := by decide +kernel
theorem d_AC_leaf_11 : decode b_AC_leaf 11 = .ok (.sipush 1024, 3) := by decide +kernel
theorem d_AC_leaf_14 : decode b_AC_leaf 14 = .ok (.imul, 1) := by decide +kernel
theorem d_AC_leaf_15 : decode b_AC_leaf 15 = .ok (.aload_n 0, 1) := by decide +kernel
theorem d_AC_leaf_16 : decode b_AC_leaf 16 = .ok (.getfield 7, 3) := by decide +kernel
theorem d_AC_leaf_19 : decode b_AC_leaf 19 = .ok (.iadd, 1) := by decide +kernel
theorem d_AC_leaf_20 : decode b_AC_leaf 20 = .ok (.ldc 20, 2) := by decide +kernel
theorem d_AC_leaf_22 : decode b_AC_leaf 22 = .ok (.aload_n 0, 1) := by decide +kernel
theorem d_AC_leaf_23 : decode b_AC_leaf 23 = .ok (.getfield 21, 3) := by decide +kernel
theorem d_AC_leaf_26 : decode b_AC_leaf 26 = .ok (.imul, 1) := by decide +kernel
theorem d_AC_leaf_27 : decode b_AC_leaf 27 = .ok (.iadd, 1) := by decide +kernel
theorem d_AC_leaf_28 : decode b_AC_leaf 28 = .ok (.goto 4, 3) := by decide +kernel
theorem d_AC_leaf_31 : decode b_AC_leaf 31 = .ok (.iconst 0, 1) := by decide +kernel
theorem d_AC_leaf_32 : decode b_AC_leaf 32 = .ok (.ireturn, 1) := by decide +kernel
def AC_leaf (x0 : Nat) (σ : ST) : Option (Int32) :=
  if ¬ (x0 ∈ pL σ ∧ pK σ x0 = 1) then none else
  if (pP σ x0 0) = 0 then (some (0 : Int32))
  else (some ((((pP σ x0 1) * (1024 : Int32)) + (pP σ x0 2)) + ((300007 : Int32) * (pP σ x0 3))))
set_option maxRecDepth 100000 in
set_option maxHeartbeats 4000000 in
theorem m_AC_leaf (l : Launch) (D : va_G) (ad : Nat → Nat) (cs : Nat → ClassId) (eE : Nat × Nat) (x0 : Nat) (σ : ST) {res : Int32} (hf : AC_leaf x0 σ = some res) : MS l y_AC_leaf (Cond.code y_AC_leaf b_AC_leaf 1 r_AC_leaf :: BIG) 0 0 0 0 (wfm ad cs) D (ttf cs) eE [.ref x0] σ (PI res σ) := by
  refine MS.of (cc := b_AC_leaf) (maxL := 1) (ret := r_AC_leaf) (by decide) rfl (Nat.le_of_ble_eq_true rfl) (loc := [(0, .ref x0)]) rfl (fun X C Rt => ?_)
  unfold AC_leaf at hf
  refine j_aload_n C 0 rfl rfl d_AC_leaf_0 ?_
  obtain ⟨g1, hf⟩ := o_gn hf
  refine gp_Account_exists C (Decidable.not_not.mp g1) (List.mem_cons_of_mem _ wd_1_90) d_AC_leaf_1 ?_
  refine j_if_eq C d_AC_leaf_4 rfl (fun c4 => ?_) (fun c4 => ?_)
  · have hf := o_it c4 hf
    refine j_iconst C (v := 0) (by decide) d_AC_leaf_31 ?_
    have hf := Option.some.inj hf
    subst hf
    exact j_iret C Rt (Nat.zero_le _) (Nat.zero_le _) d_AC_leaf_32 ⟨rfl, rfl⟩
  · have hf := o_if c4 hf
    refine j_aload_n C 0 rfl rfl d_AC_leaf_7 ?_
    refine gp_Account_coins C (Decidable.not_not.mp g1) (List.mem_cons_of_mem _ wd_1_93) d_AC_leaf_8 ?_
    refine j_sipush C (v := 1024) (by decide) d_AC_leaf_11 ?_
    refine j_imul C d_AC_leaf_14 ?_
    refine j_aload_n C 0 rfl rfl d_AC_leaf_15 ?_
    refine gp_Account_number C (Decidable.not_not.mp g1) (List.mem_cons_of_mem _ wd_1_95) d_AC_leaf_16 ?_
    refine j_iadd C d_AC_leaf_19 ?_
    refine j_ldc C (v := 300007) (List.mem_cons_of_mem _ wd_3_217) d_AC_leaf_20 ?_
    refine j_aload_n C 0 rfl rfl d_AC_leaf_22 ?_
    refine gp_Account_rate C (Decidable.not_not.mp g1) (List.mem_cons_of_mem _ wd_1_97) d_AC_leaf_23 ?_
    refine j_imul C d_AC_leaf_26 ?_
    refine j_iadd C d_AC_leaf_27 ?_
    refine j_goto C d_AC_leaf_28 rfl ?_
    have hf := Option.some.inj hf
    subst hf
    exact j_iret C Rt (Nat.zero_le _) (Nat.zero_le _) d_AC_leaf_32 ⟨rfl, rfl⟩
theorem d_AL_size_0 : decode b_AL_size 0 = .ok (.aload_n 0, 1) := by decide +kernel
theorem d_AL_size_1 : decode b_AL_size 1 = .ok (.getfield 48, 3) := by decide +kernel
theorem d_AL_size_4 : decode b_AL_size 4 = .ok (.ireturn, 1) := by decide +kernel
def AL_size_OL (σ : ST) : Option (Int32) :=
  some (gI σ 18)
set_option maxRecDepth 100000 in
set_option maxHeartbeats 4000000 in
theorem m_AL_size_OL (l : Launch) (D : va_G) (ad : Nat → Nat) (cs : Nat → ClassId) (eE : Nat × Nat) (σ : ST) {res : Int32} (hf : AL_size_OL σ = some res) : MS l y_AL_size (Cond.code y_AL_size b_AL_size 1 r_AL_size :: BIG) 0 0 0 0 (wfm ad cs) D (ttf cs) eE [.ref (ad 6)] σ (PI res σ) := by
  refine MS.of (cc := b_AL_size) (maxL := 1) (ret := r_AL_size) (by decide) rfl (Nat.le_of_ble_eq_true rfl) (loc := [(0, .ref (ad 6))]) rfl (fun X C Rt => ?_)
  unfold AL_size_OL at hf
  refine j_aload_n C 0 rfl rfl d_AL_size_0 ?_
  refine g_OL_size C (List.mem_cons_of_mem _ wd_1_73) d_AL_size_1 ?_
  have hf := Option.some.inj hf
  subst hf
  exact j_iret C Rt (Nat.zero_le _) (Nat.zero_le _) d_AL_size_4 ⟨rfl, rfl⟩
def AL_size_DL (σ : ST) : Option (Int32) :=
  some (gI σ 20)
set_option maxRecDepth 100000 in
set_option maxHeartbeats 4000000 in
theorem m_AL_size_DL (l : Launch) (D : va_G) (ad : Nat → Nat) (cs : Nat → ClassId) (eE : Nat × Nat) (σ : ST) {res : Int32} (hf : AL_size_DL σ = some res) : MS l y_AL_size (Cond.code y_AL_size b_AL_size 1 r_AL_size :: BIG) 0 0 0 0 (wfm ad cs) D (ttf cs) eE [.ref (ad 7)] σ (PI res σ) := by
  refine MS.of (cc := b_AL_size) (maxL := 1) (ret := r_AL_size) (by decide) rfl (Nat.le_of_ble_eq_true rfl) (loc := [(0, .ref (ad 7))]) rfl (fun X C Rt => ?_)
  unfold AL_size_DL at hf
  refine j_aload_n C 0 rfl rfl d_AL_size_0 ?_
  refine g_DL_size C (List.mem_cons_of_mem _ wd_1_73) d_AL_size_1 ?_
  have hf := Option.some.inj hf
  subst hf
  exact j_iret C Rt (Nat.zero_le _) (Nat.zero_le _) d_AL_size_4 ⟨rfl, rfl⟩
theorem d_PC_checkIndex_0 : decode b_PC_checkIndex 0 = .ok (.iload_n 0, 1) := by decide +kernel
theorem d_PC_checkIndex_1 : decode b_PC_checkIndex 1 = .ok (.ifCond .lt 8, 3) := by decide +kernel
theorem d_PC_checkIndex_4 : decode b_PC_checkIndex 4 = .ok (.iload_n 0, 1) := by decide +kernel
theorem d_PC_checkIndex_5 : decode b_PC_checkIndex 5 = .ok (.iload_n 1, 1) := by decide +kernel
theorem d_PC_checkIndex_6 : decode b_PC_checkIndex 6 = .ok (.if_icmp .lt 10, 3) := by decide +kernel
theorem d_PC_checkIndex_9 : decode b_PC_checkIndex 9 = .ok (.aload_n 2, 1) := by decide +kernel
theorem d_PC_checkIndex_10 : decode b_PC_checkIndex 10 = .ok (.iload_n 0, 1) := by decide +kernel
theorem d_PC_checkIndex_11 : decode b_PC_checkIndex 11 = .ok (.iload_n 1, 1) := by decide +kernel
theorem d_PC_checkIndex_12 : decode b_PC_checkIndex 12 = .ok (.invokestatic 95, 3) := by decide +kernel
theorem d_PC_checkIndex_15 : decode b_PC_checkIndex 15 = .ok (.athrow, 1) := by decide +kernel
theorem d_PC_checkIndex_16 : decode b_PC_checkIndex 16 = .ok (.iload_n 0, 1) := by decide +kernel
theorem d_PC_checkIndex_17 : decode b_PC_checkIndex 17 = .ok (.ireturn, 1) := by decide +kernel
def PC_checkIndex_c9 (x0 : Int32) (x1 : Int32) : Option (Int32) :=
  none
set_option maxRecDepth 100000 in
set_option maxHeartbeats 4000000 in
theorem w_PC_checkIndex_c9 {X : JX} (C : JC X l D (ttf cs) eE b_PC_checkIndex "jdk/internal/util/Preconditions" 3 (Cond.code y_PC_checkIndex b_PC_checkIndex 3 r_PC_checkIndex :: BIG) 0 0 0 0) {σ : ST} {res : Int32} (Rt : JR X (wfm ad cs) 0 0 (PI res σ) r_PC_checkIndex "checkIndex")  (x0 : Int32) (x1 : Int32) (hf : PC_checkIndex_c9 x0 x1 = some res) : J (wfm ad cs) X 3 0 0 σ 9 [(0, .int x0), (1, .int x1), (2, .null)] [] := by
  unfold PC_checkIndex_c9 at hf
  exact nomatch hf
def PC_checkIndex (x0 : Int32) (x1 : Int32) : Option (Int32) :=
  if x0 < 0 then (PC_checkIndex_c9 x0 x1)
  else (if x0 < x1 then (some x0)
  else (PC_checkIndex_c9 x0 x1))
set_option maxRecDepth 100000 in
set_option maxHeartbeats 4000000 in
theorem m_PC_checkIndex (l : Launch) (D : va_G) (ad : Nat → Nat) (cs : Nat → ClassId) (eE : Nat × Nat) (x0 : Int32) (x1 : Int32) (σ : ST) {res : Int32} (hf : PC_checkIndex x0 x1 = some res) : MS l y_PC_checkIndex (Cond.code y_PC_checkIndex b_PC_checkIndex 3 r_PC_checkIndex :: BIG) 0 0 0 0 (wfm ad cs) D (ttf cs) eE [.int x0, .int x1, .null] σ (PI res σ) := by
  refine MS.of (cc := b_PC_checkIndex) (maxL := 3) (ret := r_PC_checkIndex) (by decide) rfl (Nat.le_of_ble_eq_true rfl) (loc := [(0, .int x0), (1, .int x1), (2, .null)]) rfl (fun X C Rt => ?_)
  unfold PC_checkIndex at hf
  refine j_iload_n C 0 rfl rfl d_PC_checkIndex_0 ?_
  refine j_if_lt C d_PC_checkIndex_1 rfl (fun c1 => ?_) (fun c1 => ?_)
  · have hf := o_it c1 hf
    exact w_PC_checkIndex_c9 C Rt  x0 x1 hf
  · have hf := o_if c1 hf
    refine j_iload_n C 0 rfl rfl d_PC_checkIndex_4 ?_
    refine j_iload_n C 1 rfl rfl d_PC_checkIndex_5 ?_
    refine j_icmp_lt C d_PC_checkIndex_6 rfl (fun c6 => ?_) (fun c6 => ?_)
    · have hf := o_it c6 hf
      refine j_iload_n C 0 rfl rfl d_PC_checkIndex_16 ?_
      have hf := Option.some.inj hf
      subst hf
      exact j_iret C Rt (Nat.zero_le _) (Nat.zero_le _) d_PC_checkIndex_17 ⟨rfl, rfl⟩
    · have hf := o_if c6 hf
      exact w_PC_checkIndex_c9 C Rt  x0 x1 hf
theorem d_OB_checkIndex_0 : decode b_OB_checkIndex 0 = .ok (.iload_n 0, 1) := by decide +kernel
theorem d_OB_checkIndex_1 : decode b_OB_checkIndex 1 = .ok (.iload_n 1, 1) := by decide +kernel
theorem d_OB_checkIndex_2 : decode b_OB_checkIndex 2 = .ok (.aconst_null, 1) := by decide +kernel
theorem d_OB_checkIndex_3 : decode b_OB_checkIndex 3 = .ok (.invokestatic 105, 3) := by decide +kernel
theorem d_OB_checkIndex_6 : decode b_OB_checkIndex 6 = .ok (.ireturn, 1) := by decide +kernel
def OB_checkIndex (x0 : Int32) (x1 : Int32) : Option (Int32) :=
  bd1 (PC_checkIndex x0 x1) fun r3 =>
  some r3
set_option maxRecDepth 100000 in
set_option maxHeartbeats 4000000 in
theorem m_OB_checkIndex (l : Launch) (D : va_G) (ad : Nat → Nat) (cs : Nat → ClassId) (eE : Nat × Nat) (x0 : Int32) (x1 : Int32) (σ : ST) {res : Int32} (hf : OB_checkIndex x0 x1 = some res) : MS l y_OB_checkIndex (Cond.code y_OB_checkIndex b_OB_checkIndex 2 r_OB_checkIndex :: BIG) 1 22 0 0 (wfm ad cs) D (ttf cs) eE [.int x0, .int x1] σ (PI res σ) := by
  refine MS.of (cc := b_OB_checkIndex) (maxL := 2) (ret := r_OB_checkIndex) (by decide) rfl (Nat.le_of_ble_eq_true rfl) (loc := [(0, .int x0), (1, .int x1)]) rfl (fun X C Rt => ?_)
  unfold OB_checkIndex at hf
  refine j_iload_n C 0 rfl rfl d_OB_checkIndex_0 ?_
  refine j_iload_n C 1 rfl rfl d_OB_checkIndex_1 ?_
  refine j_null C d_OB_checkIndex_2 ?_
  obtain ⟨r3, h3, hf⟩ := o_b1 hf
  refine j_callS C [.int x0, .int x1, .null] [] (m_PC_checkIndex _ _ _ _ _ x0 x1 σ h3) (gdS wd_2_65 wd_2_66 wd_1_13 wc_PC_checkIndex) hy_PC_checkIndex rfl rfl (by decide) (by decide) (by decide) (by decide) (Nat.le_of_ble_eq_true rfl) d_OB_checkIndex_3 (j_kI (r := r3) (σ1 := σ) ?_)
  have hf := Option.some.inj hf
  subst hf
  exact j_iret C Rt (Nat.zero_le _) (Nat.zero_le _) d_OB_checkIndex_6 ⟨rfl, rfl⟩
theorem d_AL_elementData_0 : decode b_AL_elementData 0 = .ok (.aload_n 0, 1) := by decide +kernel
theorem d_AL_elementData_1 : decode b_AL_elementData 1 = .ok (.getfield 9, 3) := by decide +kernel
theorem d_AL_elementData_4 : decode b_AL_elementData 4 = .ok (.iload_n 1, 1) := by decide +kernel
theorem d_AL_elementData_5 : decode b_AL_elementData 5 = .ok (.aaload, 1) := by decide +kernel
theorem d_AL_elementData_6 : decode b_AL_elementData 6 = .ok (.areturn, 1) := by decide +kernel
def AL_elementData_OL (x1 : Int32) (σ : ST) : Option (Nat) :=
  if ¬ ((gE σ 0) ∈ pL σ ∧ pK σ (gE σ 0) = 0) then none else
  if x1 < 0 ∨ pC σ (gE σ 0) ≤ x1.toNatClampNeg then none else
  bd1 (pR σ (gE σ 0) x1.toNatClampNeg) fun q5 =>
  some q5
set_option maxRecDepth 100000 in
set_option maxHeartbeats 4000000 in
theorem m_AL_elementData_OL (l : Launch) (D : va_G) (ad : Nat → Nat) (cs : Nat → ClassId) (eE : Nat × Nat) (x1 : Int32) (σ : ST) {res : Nat} (hf : AL_elementData_OL x1 σ = some res) : MS l y_AL_elementData (Cond.code y_AL_elementData b_AL_elementData 2 r_AL_elementData :: BIG) 0 0 0 0 (wfm ad cs) D (ttf cs) eE [.ref (ad 6), .int x1] σ (PA res σ) := by
  refine MS.of (cc := b_AL_elementData) (maxL := 2) (ret := r_AL_elementData) (by decide) rfl (Nat.le_of_ble_eq_true rfl) (loc := [(0, .ref (ad 6)), (1, .int x1)]) rfl (fun X C Rt => ?_)
  unfold AL_elementData_OL at hf
  refine j_aload_n C 0 rfl rfl d_AL_elementData_0 ?_
  refine g_OL_elementData C (List.mem_cons_of_mem _ wd_1_72) d_AL_elementData_1 ?_
  refine j_iload_n C 1 rfl rfl d_AL_elementData_4 ?_
  obtain ⟨g5, hf⟩ := o_gn hf
  obtain ⟨g5bb, hf⟩ := o_gn hf
  obtain ⟨q5, hq5, hf⟩ := o_b1 hf
  refine la_pool C (Decidable.not_not.mp g5) g5bb hq5 d_AL_elementData_5 ?_
  have hf := Option.some.inj hf
  subst hf
  exact j_aret C Rt (Or.inl ⟨_, rfl⟩) (Nat.zero_le _) (Nat.zero_le _) d_AL_elementData_6 ⟨rfl, rfl⟩
def AL_elementData_DL (x1 : Int32) (σ : ST) : Option (Nat) :=
  if ¬ ((gE σ 1) ∈ pL σ ∧ pK σ (gE σ 1) = 0) then none else
  if x1 < 0 ∨ pC σ (gE σ 1) ≤ x1.toNatClampNeg then none else
  bd1 (pR σ (gE σ 1) x1.toNatClampNeg) fun q5 =>
  some q5
set_option maxRecDepth 100000 in
set_option maxHeartbeats 4000000 in
theorem m_AL_elementData_DL (l : Launch) (D : va_G) (ad : Nat → Nat) (cs : Nat → ClassId) (eE : Nat × Nat) (x1 : Int32) (σ : ST) {res : Nat} (hf : AL_elementData_DL x1 σ = some res) : MS l y_AL_elementData (Cond.code y_AL_elementData b_AL_elementData 2 r_AL_elementData :: BIG) 0 0 0 0 (wfm ad cs) D (ttf cs) eE [.ref (ad 7), .int x1] σ (PA res σ) := by
  refine MS.of (cc := b_AL_elementData) (maxL := 2) (ret := r_AL_elementData) (by decide) rfl (Nat.le_of_ble_eq_true rfl) (loc := [(0, .ref (ad 7)), (1, .int x1)]) rfl (fun X C Rt => ?_)
  unfold AL_elementData_DL at hf
  refine j_aload_n C 0 rfl rfl d_AL_elementData_0 ?_
  refine g_DL_elementData C (List.mem_cons_of_mem _ wd_1_72) d_AL_elementData_1 ?_
  refine j_iload_n C 1 rfl rfl d_AL_elementData_4 ?_
  obtain ⟨g5, hf⟩ := o_gn hf
  obtain ⟨g5bb, hf⟩ := o_gn hf
  obtain ⟨q5, hq5, hf⟩ := o_b1 hf
  refine la_pool C (Decidable.not_not.mp g5) g5bb hq5 d_AL_elementData_5 ?_
  have hf := Option.some.inj hf
  subst hf
  exact j_aret C Rt (Or.inl ⟨_, rfl⟩) (Nat.zero_le _) (Nat.zero_le _) d_AL_elementData_6 ⟨rfl, rfl⟩
theorem d_AL_get_0 : decode b_AL_get 0 = .ok (.iload_n 1, 1) := by decide +kernel
theorem d_AL_get_1 : decode b_AL_get 1 = .ok (.aload_n 0, 1) := by decide +kernel
theorem d_AL_get_2 : decode b_AL_get 2 = .ok (.getfield 48, 3) := by decide +kernel
theorem d_AL_get_5 : decode b_AL_get 5 = .ok (.invokestatic 118, 3) := by decide +kernel
theorem d_AL_get_8 : decode b_AL_get 8 = .ok (.pop, 1) := by decide +kernel
theorem d_AL_get_9 : decode b_AL_get 9 = .ok (.aload_n 0, 1) := by decide +kernel
theorem d_AL_get_10 : decode b_AL_get 10 = .ok (.iload_n 1, 1) := by decide +kernel
theorem d_AL_get_11 : decode b_AL_get 11 = .ok (.invokevirtual 123, 3) := by decide +kernel
theorem d_AL_get_14 : decode b_AL_get 14 = .ok (.areturn, 1) := by decide +kernel
def AL_get_OL (x1 : Int32) (σ : ST) : Option (Nat) :=
  bd1 (OB_checkIndex x1 (gI σ 18)) fun r5 =>
  bd1 (AL_elementData_OL x1 σ) fun r11 =>
  some r11
set_option maxRecDepth 100000 in
set_option maxHeartbeats 4000000 in
theorem m_AL_get_OL (l : Launch) (D : va_G) (ad : Nat → Nat) (cs : Nat → ClassId) (eE : Nat × Nat) (x1 : Int32) (σ : ST) {res : Nat} (hf : AL_get_OL x1 σ = some res) : MS l y_AL_get (Cond.code y_AL_get b_AL_get 2 r_AL_get :: BIG) 2 43 0 0 (wfm ad cs) D (ttf cs) eE [.ref (ad 6), .int x1] σ (PA res σ) := by
  refine MS.of (cc := b_AL_get) (maxL := 2) (ret := r_AL_get) (by decide) rfl (Nat.le_of_ble_eq_true rfl) (loc := [(0, .ref (ad 6)), (1, .int x1)]) rfl (fun X C Rt => ?_)
  unfold AL_get_OL at hf
  refine j_iload_n C 1 rfl rfl d_AL_get_0 ?_
  refine j_aload_n C 0 rfl rfl d_AL_get_1 ?_
  refine g_OL_size C (List.mem_cons_of_mem _ wd_1_73) d_AL_get_2 ?_
  obtain ⟨r5, h5, hf⟩ := o_b1 hf
  refine j_callS C [.int x1, .int (gI σ 18)] [] (m_OB_checkIndex _ _ _ _ _ x1 (gI σ 18) σ h5) (gdS wd_2_62 wd_2_63 wd_1_12 wc_OB_checkIndex) hy_OB_checkIndex rfl rfl (by decide) (by decide) (by decide) (by decide) (Nat.le_of_ble_eq_true rfl) d_AL_get_5 (j_kI (r := r5) (σ1 := σ) ?_)
  refine j_pop C rfl d_AL_get_8 ?_
  refine j_aload_n C 0 rfl rfl d_AL_get_9 ?_
  refine j_iload_n C 1 rfl rfl d_AL_get_10 ?_
  obtain ⟨r11, h11, hf⟩ := o_b1 hf
  refine j_callV (ci := 9) (Cn := "java/util/ArrayList") (T := T_AL) (N := 3) C [.int x1] [] (m_AL_elementData_OL _ _ _ _ _ x1 σ h11) (gdV wd_2_68 wd_2_69 wd_2_70 wd_1_6 wc_AL_elementData) hy_AL_elementData rfl ⟨6, rfl⟩ rfl rfl (by decide) (by decide) (by decide) (by decide) (Nat.le_of_ble_eq_true rfl) d_AL_get_11 (j_kA (r := r11) (σ1 := σ) ?_)
  have hf := Option.some.inj hf
  subst hf
  exact j_aret C Rt (Or.inl ⟨_, rfl⟩) (Nat.zero_le _) (Nat.zero_le _) d_AL_get_14 ⟨rfl, rfl⟩
def AL_get_DL (x1 : Int32) (σ : ST) : Option (Nat) :=
  bd1 (OB_checkIndex x1 (gI σ 20)) fun r5 =>
  bd1 (AL_elementData_DL x1 σ) fun r11 =>
  some r11
set_option maxRecDepth 100000 in
set_option maxHeartbeats 4000000 in
theorem m_AL_get_DL (l : Launch) (D : va_G) (ad : Nat → Nat) (cs : Nat → ClassId) (eE : Nat × Nat) (x1 : Int32) (σ : ST) {res : Nat} (hf : AL_get_DL x1 σ = some res) : MS l y_AL_get (Cond.code y_AL_get b_AL_get 2 r_AL_get :: BIG) 2 43 0 0 (wfm ad cs) D (ttf cs) eE [.ref (ad 7), .int x1] σ (PA res σ) := by
  refine MS.of (cc := b_AL_get) (maxL := 2) (ret := r_AL_get) (by decide) rfl (Nat.le_of_ble_eq_true rfl) (loc := [(0, .ref (ad 7)), (1, .int x1)]) rfl (fun X C Rt => ?_)
  unfold AL_get_DL at hf
  refine j_iload_n C 1 rfl rfl d_AL_get_0 ?_
  refine j_aload_n C 0 rfl rfl d_AL_get_1 ?_
  refine g_DL_size C (List.mem_cons_of_mem _ wd_1_73) d_AL_get_2 ?_
  obtain ⟨r5, h5, hf⟩ := o_b1 hf
  refine j_callS C [.int x1, .int (gI σ 20)] [] (m_OB_checkIndex _ _ _ _ _ x1 (gI σ 20) σ h5) (gdS wd_2_62 wd_2_63 wd_1_12 wc_OB_checkIndex) hy_OB_checkIndex rfl rfl (by decide) (by decide) (by decide) (by decide) (Nat.le_of_ble_eq_true rfl) d_AL_get_5 (j_kI (r := r5) (σ1 := σ) ?_)
  refine j_pop C rfl d_AL_get_8 ?_
  refine j_aload_n C 0 rfl rfl d_AL_get_9 ?_
  refine j_iload_n C 1 rfl rfl d_AL_get_10 ?_
  obtain ⟨r11, h11, hf⟩ := o_b1 hf
  refine j_callV (ci := 9) (Cn := "java/util/ArrayList") (T := T_AL) (N := 3) C [.int x1] [] (m_AL_elementData_DL _ _ _ _ _ x1 σ h11) (gdV wd_2_68 wd_2_69 wd_2_70 wd_1_6 wc_AL_elementData) hy_AL_elementData rfl ⟨7, rfl⟩ rfl rfl (by decide) (by decide) (by decide) (by decide) (Nat.le_of_ble_eq_true rfl) d_AL_get_11 (j_kA (r := r11) (σ1 := σ) ?_)
  have hf := Option.some.inj hf
  subst hf
  exact j_aret C Rt (Or.inl ⟨_, rfl⟩) (Nat.zero_le _) (Nat.zero_le _) d_AL_get_14 ⟨rfl, rfl⟩
theorem d_OF_isBetterThan_0 : decode b_OF_isBetterThan 0 = .ok (.aload_n 0, 1) := by decide +kernel
theorem d_OF_isBetterThan_1 : decode b_OF_isBetterThan 1 = .ok (.getfield 7, 3) := by decide +kernel
theorem d_OF_isBetterThan_4 : decode b_OF_isBetterThan 4 = .ok (.i2l, 1) := by decide +kernel
theorem d_OF_isBetterThan_5 : decode b_OF_isBetterThan 5 = .ok (.aload_n 1, 1) := by decide +kernel
theorem d_OF_isBetterThan_6 : decode b_OF_isBetterThan 6 = .ok (.getfield 13, 3) := by decide +kernel
theorem d_OF_isBetterThan_9 : decode b_OF_isBetterThan 9 = .ok (.i2l, 1) := by decide +kernel
theorem d_OF_isBetterThan_10 : decode b_OF_isBetterThan 10 = .ok (.lmul, 1) := by decide +kernel
theorem d_OF_isBetterThan_11 : decode b_OF_isBetterThan 11 = .ok (.aload_n 1, 1) := by decide +kernel
theorem d_OF_isBetterThan_12 : decode b_OF_isBetterThan 12 = .ok (.getfield 7, 3) := by decide +kernel
theorem d_OF_isBetterThan_15 : decode b_OF_isBetterThan 15 = .ok (.i2l, 1) := by decide +kernel
theorem d_OF_isBetterThan_16 : decode b_OF_isBetterThan 16 = .ok (.aload_n 0, 1) := by decide +kernel
theorem d_OF_isBetterThan_17 : decode b_OF_isBetterThan 17 = .ok (.getfield 13, 3) := by decide +kernel
theorem d_OF_isBetterThan_20 : decode b_OF_isBetterThan 20 = .ok (.i2l, 1) := by decide +kernel
theorem d_OF_isBetterThan_21 : decode b_OF_isBetterThan 21 = .ok (.lmul, 1) := by decide +kernel
theorem d_OF_isBetterThan_22 : decode b_OF_isBetterThan 22 = .ok (.lcmp, 1) := by decide +kernel
theorem d_OF_isBetterThan_23 : decode b_OF_isBetterThan 23 = .ok (.ifCond .ge 7, 3) := by decide +kernel
theorem d_OF_isBetterThan_26 : decode b_OF_isBetterThan 26 = .ok (.iconst 1, 1) := by decide +kernel
theorem d_OF_isBetterThan_27 : decode b_OF_isBetterThan 27 = .ok (.goto 4, 3) := by decide +kernel
theorem d_OF_isBetterThan_30 : decode b_OF_isBetterThan 30 = .ok (.iconst 0, 1) := by decide +kernel
theorem d_OF_isBetterThan_31 : decode b_OF_isBetterThan 31 = .ok (.ireturn, 1) := by decide +kernel
def OF_isBetterThan (x0 : Nat) (x1 : Nat) (σ : ST) : Option (Int32) :=
  if ¬ (x0 ∈ pL σ ∧ pK σ x0 = 2) then none else
  if ¬ (x1 ∈ pL σ ∧ pK σ x1 = 2) then none else
  if 0 ≤ (lg_cmp ((pP σ x0 3).toInt64 * (pP σ x1 5).toInt64) ((pP σ x1 3).toInt64 * (pP σ x0 5).toInt64)) then (some (0 : Int32))
  else (some (1 : Int32))
set_option maxRecDepth 100000 in
set_option maxHeartbeats 4000000 in
theorem m_OF_isBetterThan (l : Launch) (D : va_G) (ad : Nat → Nat) (cs : Nat → ClassId) (eE : Nat × Nat) (x0 : Nat) (x1 : Nat) (σ : ST) {res : Int32} (hf : OF_isBetterThan x0 x1 σ = some res) : MS l y_OF_isBetterThan (Cond.code y_OF_isBetterThan b_OF_isBetterThan 2 r_OF_isBetterThan :: BIG) 0 0 0 0 (wfm ad cs) D (ttf cs) eE [.ref x0, .ref x1] σ (PI res σ) := by
  refine MS.of (cc := b_OF_isBetterThan) (maxL := 2) (ret := r_OF_isBetterThan) (by decide) rfl (Nat.le_of_ble_eq_true rfl) (loc := [(0, .ref x0), (1, .ref x1)]) rfl (fun X C Rt => ?_)
  unfold OF_isBetterThan at hf
  refine j_aload_n C 0 rfl rfl d_OF_isBetterThan_0 ?_
  obtain ⟨g1, hf⟩ := o_gn hf
  refine gp_Offer_w C (Decidable.not_not.mp g1) (List.mem_cons_of_mem _ wd_3_22) d_OF_isBetterThan_1 ?_
  refine j_i2l C d_OF_isBetterThan_4 ?_
  refine j_aload_n C 1 rfl rfl d_OF_isBetterThan_5 ?_
  obtain ⟨g6, hf⟩ := o_gn hf
  refine gp_Offer_g C (Decidable.not_not.mp g6) (List.mem_cons_of_mem _ wd_3_29) d_OF_isBetterThan_6 ?_
  refine j_i2l C d_OF_isBetterThan_9 ?_
  refine j_lmul C d_OF_isBetterThan_10 ?_
  refine j_aload_n C 1 rfl rfl d_OF_isBetterThan_11 ?_
  refine gp_Offer_w C (Decidable.not_not.mp g6) (List.mem_cons_of_mem _ wd_3_22) d_OF_isBetterThan_12 ?_
  refine j_i2l C d_OF_isBetterThan_15 ?_
  refine j_aload_n C 0 rfl rfl d_OF_isBetterThan_16 ?_
  refine gp_Offer_g C (Decidable.not_not.mp g1) (List.mem_cons_of_mem _ wd_3_29) d_OF_isBetterThan_17 ?_
  refine j_i2l C d_OF_isBetterThan_20 ?_
  refine j_lmul C d_OF_isBetterThan_21 ?_
  refine j_lcmp C d_OF_isBetterThan_22 ?_
  refine j_if_ge C d_OF_isBetterThan_23 rfl (fun c23 => ?_) (fun c23 => ?_)
  · have hf := o_it c23 hf
    refine j_iconst C (v := 0) (by decide) d_OF_isBetterThan_30 ?_
    have hf := Option.some.inj hf
    subst hf
    exact j_zret C Rt (by decide) (Nat.zero_le _) (Nat.zero_le _) d_OF_isBetterThan_31 ⟨rfl, rfl⟩
  · have hf := o_if c23 hf
    refine j_iconst C (v := 1) (by decide) d_OF_isBetterThan_26 ?_
    refine j_goto C d_OF_isBetterThan_27 rfl ?_
    have hf := Option.some.inj hf
    subst hf
    exact j_zret C Rt (by decide) (Nat.zero_le _) (Nat.zero_le _) d_OF_isBetterThan_31 ⟨rfl, rfl⟩
theorem d_BK_insert_0 : decode b_BK_insert 0 = .ok (.aload_n 0, 1) := by decide +kernel
theorem d_BK_insert_1 : decode b_BK_insert 1 = .ok (.getfield 17, 3) := by decide +kernel
theorem d_BK_insert_4 : decode b_BK_insert 4 = .ok (.istore_n 2, 1) := by decide +kernel
theorem d_BK_insert_5 : decode b_BK_insert 5 = .ok (.iload_n 2, 1) := by decide +kernel
theorem d_BK_insert_6 : decode b_BK_insert 6 = .ok (.ifCond .le 38, 3) := by decide +kernel
theorem d_BK_insert_9 : decode b_BK_insert 9 = .ok (.aload_n 1, 1) := by decide +kernel
theorem d_BK_insert_10 : decode b_BK_insert 10 = .ok (.aload_n 0, 1) := by decide +kernel
theorem d_BK_insert_11 : decode b_BK_insert 11 = .ok (.getfield 11, 3) := by decide +kernel
theorem d_BK_insert_14 : decode b_BK_insert 14 = .ok (.iload_n 2, 1) := by decide +kernel
theorem d_BK_insert_15 : decode b_BK_insert 15 = .ok (.iconst 1, 1) := by decide +kernel
theorem d_BK_insert_16 : decode b_BK_insert 16 = .ok (.isub, 1) := by decide +kernel
theorem d_BK_insert_17 : decode b_BK_insert 17 = .ok (.aaload, 1) := by decide +kernel
theorem d_BK_insert_18 : decode b_BK_insert 18 = .ok (.invokevirtual 43, 3) := by decide +kernel
theorem d_BK_insert_21 : decode b_BK_insert 21 = .ok (.ifCond .eq 23, 3) := by decide +kernel
theorem d_BK_insert_24 : decode b_BK_insert 24 = .ok (.aload_n 0, 1) := by decide +kernel
theorem d_BK_insert_25 : decode b_BK_insert 25 = .ok (.getfield 11, 3) := by decide +kernel
theorem d_BK_insert_28 : decode b_BK_insert 28 = .ok (.iload_n 2, 1) := by decide +kernel
theorem d_BK_insert_29 : decode b_BK_insert 29 = .ok (.aload_n 0, 1) := by decide +kernel
theorem d_BK_insert_30 : decode b_BK_insert 30 = .ok (.getfield 11, 3) := by decide +kernel
theorem d_BK_insert_33 : decode b_BK_insert 33 = .ok (.iload_n 2, 1) := by decide +kernel
theorem d_BK_insert_34 : decode b_BK_insert 34 = .ok (.iconst 1, 1) := by decide +kernel
theorem d_BK_insert_35 : decode b_BK_insert 35 = .ok (.isub, 1) := by decide +kernel
theorem d_BK_insert_36 : decode b_BK_insert 36 = .ok (.aaload, 1) := by decide +kernel
theorem d_BK_insert_37 : decode b_BK_insert 37 = .ok (.aastore, 1) := by decide +kernel
theorem d_BK_insert_38 : decode b_BK_insert 38 = .ok (.iinc 2 (-1), 3) := by decide +kernel
theorem d_BK_insert_41 : decode b_BK_insert 41 = .ok (.goto (-36), 3) := by decide +kernel
theorem d_BK_insert_44 : decode b_BK_insert 44 = .ok (.aload_n 0, 1) := by decide +kernel
theorem d_BK_insert_45 : decode b_BK_insert 45 = .ok (.getfield 11, 3) := by decide +kernel
theorem d_BK_insert_48 : decode b_BK_insert 48 = .ok (.iload_n 2, 1) := by decide +kernel
theorem d_BK_insert_49 : decode b_BK_insert 49 = .ok (.aload_n 1, 1) := by decide +kernel
theorem d_BK_insert_50 : decode b_BK_insert 50 = .ok (.aastore, 1) := by decide +kernel
theorem d_BK_insert_51 : decode b_BK_insert 51 = .ok (.aload_n 0, 1) := by decide +kernel
theorem d_BK_insert_52 : decode b_BK_insert 52 = .ok (.dup, 1) := by decide +kernel
theorem d_BK_insert_53 : decode b_BK_insert 53 = .ok (.getfield 17, 3) := by decide +kernel
theorem d_BK_insert_56 : decode b_BK_insert 56 = .ok (.iconst 1, 1) := by decide +kernel
theorem d_BK_insert_57 : decode b_BK_insert 57 = .ok (.iadd, 1) := by decide +kernel
theorem d_BK_insert_58 : decode b_BK_insert 58 = .ok (.putfield 17, 3) := by decide +kernel
theorem d_BK_insert_61 : decode b_BK_insert 61 = .ok (.return_, 1) := by decide +kernel
def BK_insert_c44 (x1 : Nat) (x2 : Int32) (σ : ST) : Option (ST) :=
  if x2 < 0 ∨ 12 ≤ x2.toNatClampNeg then none else
  if ¬ (x1 ∈ pL σ ∧ pK σ x1 = 2) then none else
  nmS (sR σ 1 x2.toNatClampNeg (some x1)) fun σ50 =>
  nmS (sI σ50 9 ((gI σ50 9) + (1 : Int32))) fun σ58 =>
  some σ58
set_option maxRecDepth 100000 in
set_option maxHeartbeats 4000000 in
theorem w_BK_insert_c44 {X : JX} (C : JC X l D (ttf cs) eE b_BK_insert "TollLedger$Book" 3 (Cond.code y_BK_insert b_BK_insert 3 r_BK_insert :: BIG) 1 21 0 0) {res : ST} (Rt : JR X (wfm ad cs) 0 0 (PV res) r_BK_insert "insert")  (x1 : Nat) (x2 : Int32) (σ : ST) (hf : BK_insert_c44 x1 x2 σ = some res) : J (wfm ad cs) X 3 0 0 σ 44 [(0, .ref (ad 3)), (1, .ref x1), (2, .int x2)] [] := by
  unfold BK_insert_c44 at hf
  refine j_aload_n C 0 rfl rfl d_BK_insert_44 ?_
  refine g_BK_row C (List.mem_cons_of_mem _ wd_1_152) d_BK_insert_45 ?_
  refine j_iload_n C 2 rfl rfl d_BK_insert_48 ?_
  refine j_aload_n C 1 rfl rfl d_BK_insert_49 ?_
  obtain ⟨g50, hf⟩ := o_gn hf
  obtain ⟨g50bb, hf⟩ := o_gn hf
  obtain ⟨σ50, eσ50, hf⟩ := o_nmS hf
  refine sa_row C (Decidable.not_not.mp g50bb) g50 eσ50 d_BK_insert_50 ?_
  refine j_aload_n C 0 rfl rfl d_BK_insert_51 ?_
  refine j_dup C rfl d_BK_insert_52 ?_
  refine g_BK_size C (List.mem_cons_of_mem _ wd_1_155) d_BK_insert_53 ?_
  refine j_iconst C (v := 1) (by decide) d_BK_insert_56 ?_
  refine j_iadd C d_BK_insert_57 ?_
  obtain ⟨σ58, eσ58, hf⟩ := o_nmS hf
  refine p_BK_size C eσ58 (List.mem_cons_of_mem _ wd_1_155) d_BK_insert_58 ?_
  have hf := Option.some.inj hf
  subst hf
  exact j_vret C Rt (Nat.zero_le _) (Nat.zero_le _) d_BK_insert_61 ⟨rfl, rfl⟩
def BK_insert_b5 (kb5 : Nat → Int32 → ST → Option (ST)) (x1 : Nat) (x2 : Int32) (σ : ST) : Option (ST) :=
  if x2 ≤ 0 then (BK_insert_c44 x1 x2 σ)
  else (if (x2 - (1 : Int32)) < 0 ∨ 12 ≤ (x2 - (1 : Int32)).toNatClampNeg then none else
  bd1 (gR σ 1 (x2 - (1 : Int32)).toNatClampNeg) fun q17 =>
  if ¬ (x1 ∈ pL σ ∧ pK σ x1 = 2) then none else
  bd1 (OF_isBetterThan x1 q17 σ) fun r18 =>
  if r18 = 0 then (BK_insert_c44 x1 x2 σ)
  else (bd1 (gR σ 1 (x2 - (1 : Int32)).toNatClampNeg) fun q36 =>
  if x2 < 0 ∨ 12 ≤ x2.toNatClampNeg then none else
  if ¬ (q36 ∈ pL σ ∧ pK σ q36 = 2) then none else
  nmS (sR σ 1 x2.toNatClampNeg (some q36)) fun σ37 =>
  kb5 x1 (x2 + (-1)) σ37))
set_option maxRecDepth 100000 in
set_option maxHeartbeats 4000000 in
theorem w_BK_insert_b5 {X : JX} (C : JC X l D (ttf cs) eE b_BK_insert "TollLedger$Book" 3 (Cond.code y_BK_insert b_BK_insert 3 r_BK_insert :: BIG) 1 21 0 0) {res : ST} (Rt : JR X (wfm ad cs) 0 0 (PV res) r_BK_insert "insert") {kb5 : Nat → Int32 → ST → Option (ST)} (hk5 : ∀ (x1 : Nat) (x2 : Int32) (σ : ST), kb5 x1 x2 σ = some res → J (wfm ad cs) X 3 0 0 σ 5 [(0, .ref (ad 3)), (1, .ref x1), (2, .int x2)] []) (x1 : Nat) (x2 : Int32) (σ : ST) (hf : BK_insert_b5 kb5 x1 x2 σ = some res) : J (wfm ad cs) X 3 0 0 σ 5 [(0, .ref (ad 3)), (1, .ref x1), (2, .int x2)] [] := by
  unfold BK_insert_b5 at hf
  refine j_iload_n C 2 rfl rfl d_BK_insert_5 ?_
  refine j_if_le C d_BK_insert_6 rfl (fun c6 => ?_) (fun c6 => ?_)
  · have hf := o_it c6 hf
    exact w_BK_insert_c44 C Rt  x1 x2 σ hf
  · have hf := o_if c6 hf
    refine j_aload_n C 1 rfl rfl d_BK_insert_9 ?_
    refine j_aload_n C 0 rfl rfl d_BK_insert_10 ?_
    refine g_BK_row C (List.mem_cons_of_mem _ wd_1_152) d_BK_insert_11 ?_
    refine j_iload_n C 2 rfl rfl d_BK_insert_14 ?_
    refine j_iconst C (v := 1) (by decide) d_BK_insert_15 ?_
    refine j_isub C d_BK_insert_16 ?_
    obtain ⟨g17, hf⟩ := o_gn hf
    obtain ⟨q17, hq17, hf⟩ := o_b1 hf
    refine la_row C g17 hq17 d_BK_insert_17 ?_
    obtain ⟨g18, hf⟩ := o_gn hf
    obtain ⟨r18, h18, hf⟩ := o_b1 hf
    refine j_callV (ci := 7) (Cn := "TollLedger$Offer") (T := T_OF) (N := 6) C [.ref q17] [] (m_OF_isBetterThan _ _ _ _ _ x1 q17 σ h18) (gdV wd_2_136 wd_2_137 wd_2_138 wd_1_16 wc_OF_isBetterThan) hy_OF_isBetterThan rfl (rdp2 (Decidable.not_not.mp g18)) rfl rfl (by decide) (by decide) (by decide) (by decide) (Nat.le_of_ble_eq_true rfl) d_BK_insert_18 (j_kI (r := r18) (σ1 := σ) ?_)
    refine j_if_eq C d_BK_insert_21 rfl (fun c21 => ?_) (fun c21 => ?_)
    · have hf := o_it c21 hf
      exact w_BK_insert_c44 C Rt  x1 x2 σ hf
    · have hf := o_if c21 hf
      refine j_aload_n C 0 rfl rfl d_BK_insert_24 ?_
      refine g_BK_row C (List.mem_cons_of_mem _ wd_1_152) d_BK_insert_25 ?_
      refine j_iload_n C 2 rfl rfl d_BK_insert_28 ?_
      refine j_aload_n C 0 rfl rfl d_BK_insert_29 ?_
      refine g_BK_row C (List.mem_cons_of_mem _ wd_1_152) d_BK_insert_30 ?_
      refine j_iload_n C 2 rfl rfl d_BK_insert_33 ?_
      refine j_iconst C (v := 1) (by decide) d_BK_insert_34 ?_
      refine j_isub C d_BK_insert_35 ?_
      obtain ⟨q36, hq36, hf⟩ := o_b1 hf
      refine la_row C g17 hq36 d_BK_insert_36 ?_
      obtain ⟨g37, hf⟩ := o_gn hf
      obtain ⟨g37bb, hf⟩ := o_gn hf
      obtain ⟨σ37, eσ37, hf⟩ := o_nmS hf
      refine sa_row C (Decidable.not_not.mp g37bb) g37 eσ37 d_BK_insert_37 ?_
      refine j_iinc C 2 rfl (v := (x2 + (-1))) (inc_m1 _) (by decide) (loc' := [(2, .int (x2 + (-1))), (0, .ref (ad 3)), (1, .ref x1)]) rfl d_BK_insert_38 ?_
      refine j_goto C d_BK_insert_41 rfl ?_
      refine j_sub [1, 2, 0] rfl ?_
      exact hk5 x1 (x2 + (-1)) σ37 hf
def BK_insert_L5 : Nat → Nat → Int32 → ST → Option (ST)
  | 0, _, _, _ => none
  | N + 1, x1, x2, σ => BK_insert_b5 (fun x1 x2 σ => BK_insert_L5 N x1 x2 σ) x1 x2 σ
theorem w_BK_insert_L5 {X : JX} (C : JC X l D (ttf cs) eE b_BK_insert "TollLedger$Book" 3 (Cond.code y_BK_insert b_BK_insert 3 r_BK_insert :: BIG) 1 21 0 0) {res : ST} (Rt : JR X (wfm ad cs) 0 0 (PV res) r_BK_insert "insert")  (N : Nat) (x1 : Nat) (x2 : Int32) (σ : ST) (hf : BK_insert_L5 N x1 x2 σ = some res) : J (wfm ad cs) X 3 0 0 σ 5 [(0, .ref (ad 3)), (1, .ref x1), (2, .int x2)] [] := by
  induction N generalizing x1 x2 σ with
  | zero => exact nomatch hf
  | succ N ih => exact w_BK_insert_b5 C Rt  (fun x1 x2 σ h => ih x1 x2 σ h) x1 x2 σ hf
def BK_insert (x1 : Nat) (σ : ST) : Option (ST) :=
  nmI (gI σ 9) fun x2_4 =>
  BK_insert_L5 FU x1 x2_4 σ
set_option maxRecDepth 100000 in
set_option maxHeartbeats 4000000 in
theorem m_BK_insert (l : Launch) (D : va_G) (ad : Nat → Nat) (cs : Nat → ClassId) (eE : Nat × Nat) (x1 : Nat) (σ : ST) {res : ST} (hf : BK_insert x1 σ = some res) : MS l y_BK_insert (Cond.code y_BK_insert b_BK_insert 3 r_BK_insert :: BIG) 1 21 0 0 (wfm ad cs) D (ttf cs) eE [.ref (ad 3), .ref x1] σ (PV res) := by
  refine MS.of (cc := b_BK_insert) (maxL := 3) (ret := r_BK_insert) (by decide) rfl (Nat.le_of_ble_eq_true rfl) (loc := [(0, .ref (ad 3)), (1, .ref x1)]) rfl (fun X C Rt => ?_)
  unfold BK_insert at hf
  refine j_aload_n C 0 rfl rfl d_BK_insert_0 ?_
  refine g_BK_size C (List.mem_cons_of_mem _ wd_1_155) d_BK_insert_1 ?_
  obtain ⟨x2_4, ex2_4, hf⟩ := o_nmI hf
  refine j_topI ex2_4 ?_
  refine j_istore_n C rfl (by decide) (loc' := [(2, .int x2_4), (0, .ref (ad 3)), (1, .ref x1)]) rfl d_BK_insert_4 ?_
  refine j_sub [1, 2, 0] rfl ?_
  exact w_BK_insert_L5 C Rt  FU x1 x2_4 σ hf
theorem d_BK_gather_0 : decode b_BK_gather 0 = .ok (.aload_n 0, 1) := by decide +kernel
theorem d_BK_gather_1 : decode b_BK_gather 1 = .ok (.iconst 0, 1) := by decide +kernel
theorem d_BK_gather_2 : decode b_BK_gather 2 = .ok (.putfield 17, 3) := by decide +kernel
theorem d_BK_gather_5 : decode b_BK_gather 5 = .ok (.iconst 0, 1) := by decide +kernel
theorem d_BK_gather_6 : decode b_BK_gather 6 = .ok (.istore 5, 2) := by decide +kernel
theorem d_BK_gather_8 : decode b_BK_gather 8 = .ok (.iload 5, 2) := by decide +kernel
theorem d_BK_gather_10 : decode b_BK_gather 10 = .ok (.aload_n 1, 1) := by decide +kernel
theorem d_BK_gather_11 : decode b_BK_gather 11 = .ok (.invokevirtual 21, 3) := by decide +kernel
theorem d_BK_gather_14 : decode b_BK_gather 14 = .ok (.if_icmp .ge 61, 3) := by decide +kernel
theorem d_BK_gather_17 : decode b_BK_gather 17 = .ok (.iload 5, 2) := by decide +kernel
theorem d_BK_gather_19 : decode b_BK_gather 19 = .ok (.bipush 12, 2) := by decide +kernel
theorem d_BK_gather_21 : decode b_BK_gather 21 = .ok (.if_icmp .ge 54, 3) := by decide +kernel
theorem d_BK_gather_24 : decode b_BK_gather 24 = .ok (.aload_n 1, 1) := by decide +kernel
theorem d_BK_gather_25 : decode b_BK_gather 25 = .ok (.iload 5, 2) := by decide +kernel
theorem d_BK_gather_27 : decode b_BK_gather 27 = .ok (.invokevirtual 26, 3) := by decide +kernel
theorem d_BK_gather_30 : decode b_BK_gather 30 = .ok (.checkcast 9, 3) := by decide +kernel
theorem d_BK_gather_33 : decode b_BK_gather 33 = .ok (.astore 6, 2) := by decide +kernel
theorem d_BK_gather_35 : decode b_BK_gather 35 = .ok (.aload 6, 2) := by decide +kernel
theorem d_BK_gather_37 : decode b_BK_gather 37 = .ok (.getfield 30, 3) := by decide +kernel
theorem d_BK_gather_40 : decode b_BK_gather 40 = .ok (.iload_n 2, 1) := by decide +kernel
theorem d_BK_gather_41 : decode b_BK_gather 41 = .ok (.if_icmp .ne 28, 3) := by decide +kernel
theorem d_BK_gather_44 : decode b_BK_gather 44 = .ok (.aload 6, 2) := by decide +kernel
theorem d_BK_gather_46 : decode b_BK_gather 46 = .ok (.getfield 33, 3) := by decide +kernel
theorem d_BK_gather_49 : decode b_BK_gather 49 = .ok (.iload_n 3, 1) := by decide +kernel
theorem d_BK_gather_50 : decode b_BK_gather 50 = .ok (.if_icmp .ne 19, 3) := by decide +kernel
theorem d_BK_gather_53 : decode b_BK_gather 53 = .ok (.aload 6, 2) := by decide +kernel
theorem d_BK_gather_55 : decode b_BK_gather 55 = .ok (.getfield 36, 3) := by decide +kernel
theorem d_BK_gather_58 : decode b_BK_gather 58 = .ok (.iload 4, 2) := by decide +kernel
theorem d_BK_gather_60 : decode b_BK_gather 60 = .ok (.if_icmp .eq 9, 3) := by decide +kernel
theorem d_BK_gather_63 : decode b_BK_gather 63 = .ok (.aload_n 0, 1) := by decide +kernel
theorem d_BK_gather_64 : decode b_BK_gather 64 = .ok (.aload 6, 2) := by decide +kernel
theorem d_BK_gather_66 : decode b_BK_gather 66 = .ok (.invokevirtual 39, 3) := by decide +kernel
theorem d_BK_gather_69 : decode b_BK_gather 69 = .ok (.iinc 5 1, 3) := by decide +kernel
theorem d_BK_gather_72 : decode b_BK_gather 72 = .ok (.goto (-64), 3) := by decide +kernel
theorem d_BK_gather_75 : decode b_BK_gather 75 = .ok (.return_, 1) := by decide +kernel
def BK_gather_b8 (kb8 : Int32 → Int32 → Int32 → Int32 → ST → Option (ST)) (x2 : Int32) (x3 : Int32) (x4 : Int32) (x5 : Int32) (σ : ST) : Option (ST) :=
  bd1 (AL_size_OL σ) fun r11 =>
  if r11 ≤ x5 then (some σ)
  else (if (12 : Int32) ≤ x5 then (some σ)
  else (bd1 (AL_get_OL x5 σ) fun r27 =>
  if ¬ (r27 ∈ pL σ ∧ pK σ r27 = 2) then none else
  if (pP σ r27 2) = x2 then (if (pP σ r27 4) = x3 then (if (pP σ r27 1) = x4 then (kb8 x2 x3 x4 (x5 + 1) σ)
  else (bd1 (BK_insert r27 σ) fun σ66 =>
  kb8 x2 x3 x4 (x5 + 1) σ66))
  else (kb8 x2 x3 x4 (x5 + 1) σ))
  else (kb8 x2 x3 x4 (x5 + 1) σ)))
set_option maxRecDepth 100000 in
set_option maxHeartbeats 4000000 in
theorem w_BK_gather_b8 {X : JX} (C : JC X l D (ttf cs) eE b_BK_gather "TollLedger$Book" 7 (Cond.code y_BK_gather b_BK_gather 7 r_BK_gather :: BIG) 3 64 0 0) {res : ST} (Rt : JR X (wfm ad cs) 0 0 (PV res) r_BK_gather "gather") {kb8 : Int32 → Int32 → Int32 → Int32 → ST → Option (ST)} (hk8 : ∀ (x2 : Int32) (x3 : Int32) (x4 : Int32) (x5 : Int32) (σ : ST), kb8 x2 x3 x4 x5 σ = some res → J (wfm ad cs) X 7 0 0 σ 8 [(0, .ref (ad 3)), (1, .ref (ad 6)), (2, .int x2), (3, .int x3), (4, .int x4), (5, .int x5)] []) (x2 : Int32) (x3 : Int32) (x4 : Int32) (x5 : Int32) (σ : ST) (hf : BK_gather_b8 kb8 x2 x3 x4 x5 σ = some res) : J (wfm ad cs) X 7 0 0 σ 8 [(0, .ref (ad 3)), (1, .ref (ad 6)), (2, .int x2), (3, .int x3), (4, .int x4), (5, .int x5)] [] := by
  unfold BK_gather_b8 at hf
  refine j_iload C 5 rfl d_BK_gather_8 ?_
  refine j_aload_n C 1 rfl rfl d_BK_gather_10 ?_
  obtain ⟨r11, h11, hf⟩ := o_b1 hf
  refine j_callV (ci := 9) (Cn := "java/util/ArrayList") (T := T_AL) (N := 3) C [] [.int x5] (m_AL_size_OL _ _ _ _ _ σ h11) (gdV wd_2_130 wd_2_55 wd_2_56 wd_1_6 wc_AL_size) hy_AL_size rfl ⟨6, rfl⟩ rfl rfl (by decide) (by decide) (by decide) (by decide) (Nat.le_of_ble_eq_true rfl) d_BK_gather_11 (j_kI (r := r11) (σ1 := σ) ?_)
  refine j_icmp_ge C d_BK_gather_14 rfl (fun c14 => ?_) (fun c14 => ?_)
  · have hf := o_it c14 hf
    have hf := Option.some.inj hf
    subst hf
    exact j_vret C Rt (Nat.zero_le _) (Nat.zero_le _) d_BK_gather_75 ⟨rfl, rfl⟩
  · have hf := o_if c14 hf
    refine j_iload C 5 rfl d_BK_gather_17 ?_
    refine j_bipush C (v := 12) (by decide) d_BK_gather_19 ?_
    refine j_icmp_ge C d_BK_gather_21 rfl (fun c21 => ?_) (fun c21 => ?_)
    · have hf := o_it c21 hf
      have hf := Option.some.inj hf
      subst hf
      exact j_vret C Rt (Nat.zero_le _) (Nat.zero_le _) d_BK_gather_75 ⟨rfl, rfl⟩
    · have hf := o_if c21 hf
      refine j_aload_n C 1 rfl rfl d_BK_gather_24 ?_
      refine j_iload C 5 rfl d_BK_gather_25 ?_
      obtain ⟨r27, h27, hf⟩ := o_b1 hf
      refine j_callV (ci := 9) (Cn := "java/util/ArrayList") (T := T_AL) (N := 3) C [.int x5] [] (m_AL_get_OL _ _ _ _ _ x5 σ h27) (gdV wd_2_131 wd_2_59 wd_2_60 wd_1_6 wc_AL_get) hy_AL_get rfl ⟨6, rfl⟩ rfl rfl (by decide) (by decide) (by decide) (by decide) (Nat.le_of_ble_eq_true rfl) d_BK_gather_27 (j_kA (r := r27) (σ1 := σ) ?_)
      obtain ⟨g30, hf⟩ := o_gn hf
      refine cc_Offer C (Decidable.not_not.mp g30) (List.mem_cons_of_mem _ wd_1_150) d_BK_gather_30 ?_
      refine j_astore C (by decide) (loc' := [(6, .ref r27), (0, .ref (ad 3)), (1, .ref (ad 6)), (2, .int x2), (3, .int x3), (4, .int x4), (5, .int x5)]) rfl d_BK_gather_33 ?_
      refine j_aload C 0 rfl d_BK_gather_35 ?_
      refine gp_Offer_wants C (Decidable.not_not.mp g30) (List.mem_cons_of_mem _ wd_3_19) d_BK_gather_37 ?_
      refine j_iload_n C 3 rfl rfl d_BK_gather_40 ?_
      refine j_icmp_ne C d_BK_gather_41 rfl (fun c41 => ?_) (fun c41 => ?_)
      · have hf := o_if c41 hf
        refine j_iinc C 6 rfl (v := (x5 + 1)) (inc_p1 _) (by decide) (loc' := [(5, .int (x5 + 1)), (6, .ref r27), (0, .ref (ad 3)), (1, .ref (ad 6)), (2, .int x2), (3, .int x3), (4, .int x4)]) rfl d_BK_gather_69 ?_
        refine j_goto C d_BK_gather_72 rfl ?_
        refine j_sub [2, 3, 4, 5, 6, 0] rfl ?_
        exact hk8 x2 x3 x4 (x5 + 1) σ hf
      · have hf := o_it c41 hf
        refine j_aload C 0 rfl d_BK_gather_44 ?_
        refine gp_Offer_gives C (Decidable.not_not.mp g30) (List.mem_cons_of_mem _ wd_3_26) d_BK_gather_46 ?_
        refine j_iload_n C 4 rfl rfl d_BK_gather_49 ?_
        refine j_icmp_ne C d_BK_gather_50 rfl (fun c50 => ?_) (fun c50 => ?_)
        · have hf := o_if c50 hf
          refine j_iinc C 6 rfl (v := (x5 + 1)) (inc_p1 _) (by decide) (loc' := [(5, .int (x5 + 1)), (6, .ref r27), (0, .ref (ad 3)), (1, .ref (ad 6)), (2, .int x2), (3, .int x3), (4, .int x4)]) rfl d_BK_gather_69 ?_
          refine j_goto C d_BK_gather_72 rfl ?_
          refine j_sub [2, 3, 4, 5, 6, 0] rfl ?_
          exact hk8 x2 x3 x4 (x5 + 1) σ hf
        · have hf := o_it c50 hf
          refine j_aload C 0 rfl d_BK_gather_53 ?_
          refine gp_Offer_owner C (Decidable.not_not.mp g30) (List.mem_cons_of_mem _ wd_3_15) d_BK_gather_55 ?_
          refine j_iload C 5 rfl d_BK_gather_58 ?_
          refine j_icmp_eq C d_BK_gather_60 rfl (fun c60 => ?_) (fun c60 => ?_)
          · have hf := o_it c60 hf
            refine j_iinc C 6 rfl (v := (x5 + 1)) (inc_p1 _) (by decide) (loc' := [(5, .int (x5 + 1)), (6, .ref r27), (0, .ref (ad 3)), (1, .ref (ad 6)), (2, .int x2), (3, .int x3), (4, .int x4)]) rfl d_BK_gather_69 ?_
            refine j_goto C d_BK_gather_72 rfl ?_
            refine j_sub [2, 3, 4, 5, 6, 0] rfl ?_
            exact hk8 x2 x3 x4 (x5 + 1) σ hf
          · have hf := o_if c60 hf
            refine j_aload_n C 1 rfl rfl d_BK_gather_63 ?_
            refine j_aload C 0 rfl d_BK_gather_64 ?_
            obtain ⟨σ66, h66, hf⟩ := o_b1 hf
            refine j_callV (ci := 3) (Cn := "TollLedger$Book") (T := T_BK) (N := 2) C [.ref r27] [] (m_BK_insert _ _ _ _ _ r27 σ h66) (gdV wd_2_132 wd_2_134 wp_3 wd_1_9 wc_BK_insert) hy_BK_insert rfl ⟨3, rfl⟩ rfl rfl (by decide) (by decide) (by decide) (by decide) (Nat.le_of_ble_eq_true rfl) d_BK_gather_66 (j_kV (σ1 := σ66) ?_)
            refine j_iinc C 6 rfl (v := (x5 + 1)) (inc_p1 _) (by decide) (loc' := [(5, .int (x5 + 1)), (6, .ref r27), (0, .ref (ad 3)), (1, .ref (ad 6)), (2, .int x2), (3, .int x3), (4, .int x4)]) rfl d_BK_gather_69 ?_
            refine j_goto C d_BK_gather_72 rfl ?_
            refine j_sub [2, 3, 4, 5, 6, 0] rfl ?_
            exact hk8 x2 x3 x4 (x5 + 1) σ66 hf
def BK_gather_L8 : Nat → Int32 → Int32 → Int32 → Int32 → ST → Option (ST)
  | 0, _, _, _, _, _ => none
  | N + 1, x2, x3, x4, x5, σ => BK_gather_b8 (fun x2 x3 x4 x5 σ => BK_gather_L8 N x2 x3 x4 x5 σ) x2 x3 x4 x5 σ
theorem w_BK_gather_L8 {X : JX} (C : JC X l D (ttf cs) eE b_BK_gather "TollLedger$Book" 7 (Cond.code y_BK_gather b_BK_gather 7 r_BK_gather :: BIG) 3 64 0 0) {res : ST} (Rt : JR X (wfm ad cs) 0 0 (PV res) r_BK_gather "gather")  (N : Nat) (x2 : Int32) (x3 : Int32) (x4 : Int32) (x5 : Int32) (σ : ST) (hf : BK_gather_L8 N x2 x3 x4 x5 σ = some res) : J (wfm ad cs) X 7 0 0 σ 8 [(0, .ref (ad 3)), (1, .ref (ad 6)), (2, .int x2), (3, .int x3), (4, .int x4), (5, .int x5)] [] := by
  induction N generalizing x2 x3 x4 x5 σ with
  | zero => exact nomatch hf
  | succ N ih => exact w_BK_gather_b8 C Rt  (fun x2 x3 x4 x5 σ h => ih x2 x3 x4 x5 σ h) x2 x3 x4 x5 σ hf
def BK_gather (x2 : Int32) (x3 : Int32) (x4 : Int32) (σ : ST) : Option (ST) :=
  nmS (sI σ 9 (0 : Int32)) fun σ2 =>
  BK_gather_L8 FU x2 x3 x4 (0 : Int32) σ2
set_option maxRecDepth 100000 in
set_option maxHeartbeats 4000000 in
theorem m_BK_gather (l : Launch) (D : va_G) (ad : Nat → Nat) (cs : Nat → ClassId) (eE : Nat × Nat) (x2 : Int32) (x3 : Int32) (x4 : Int32) (σ : ST) {res : ST} (hf : BK_gather x2 x3 x4 σ = some res) : MS l y_BK_gather (Cond.code y_BK_gather b_BK_gather 7 r_BK_gather :: BIG) 3 64 0 0 (wfm ad cs) D (ttf cs) eE [.ref (ad 3), .ref (ad 6), .int x2, .int x3, .int x4] σ (PV res) := by
  refine MS.of (cc := b_BK_gather) (maxL := 7) (ret := r_BK_gather) (by decide) rfl (Nat.le_of_ble_eq_true rfl) (loc := [(0, .ref (ad 3)), (1, .ref (ad 6)), (2, .int x2), (3, .int x3), (4, .int x4)]) rfl (fun X C Rt => ?_)
  unfold BK_gather at hf
  refine j_aload_n C 0 rfl rfl d_BK_gather_0 ?_
  refine j_iconst C (v := 0) (by decide) d_BK_gather_1 ?_
  obtain ⟨σ2, eσ2, hf⟩ := o_nmS hf
  refine p_BK_size C eσ2 (List.mem_cons_of_mem _ wd_1_155) d_BK_gather_2 ?_
  refine j_iconst C (v := 0) (by decide) d_BK_gather_5 ?_
  refine j_istore C (by decide) (loc' := [(5, .int (0 : Int32)), (0, .ref (ad 3)), (1, .ref (ad 6)), (2, .int x2), (3, .int x3), (4, .int x4)]) rfl d_BK_gather_6 ?_
  refine j_sub [1, 2, 3, 4, 5, 0] rfl ?_
  exact w_BK_gather_L8 C Rt  FU x2 x3 x4 (0 : Int32) σ2 hf
theorem d_DP_leaf_0 : decode b_DP_leaf 0 = .ok (.aload_n 0, 1) := by decide +kernel
theorem d_DP_leaf_1 : decode b_DP_leaf 1 = .ok (.getfield 7, 3) := by decide +kernel
theorem d_DP_leaf_4 : decode b_DP_leaf 4 = .ok (.bipush 64, 2) := by decide +kernel
theorem d_DP_leaf_6 : decode b_DP_leaf 6 = .ok (.aload_n 0, 1) := by decide +kernel
theorem d_DP_leaf_7 : decode b_DP_leaf 7 = .ok (.getfield 13, 3) := by decide +kernel
theorem d_DP_leaf_10 : decode b_DP_leaf 10 = .ok (.bipush 6, 2) := by decide +kernel
theorem d_DP_leaf_12 : decode b_DP_leaf 12 = .ok (.aload_n 0, 1) := by decide +kernel
theorem d_DP_leaf_13 : decode b_DP_leaf 13 = .ok (.getfield 16, 3) := by decide +kernel
theorem d_DP_leaf_16 : decode b_DP_leaf 16 = .ok (.imul, 1) := by decide +kernel
theorem d_DP_leaf_17 : decode b_DP_leaf 17 = .ok (.iadd, 1) := by decide +kernel
theorem d_DP_leaf_18 : decode b_DP_leaf 18 = .ok (.imul, 1) := by decide +kernel
theorem d_DP_leaf_19 : decode b_DP_leaf 19 = .ok (.iadd, 1) := by decide +kernel
theorem d_DP_leaf_20 : decode b_DP_leaf 20 = .ok (.sipush 3001, 3) := by decide +kernel
theorem d_DP_leaf_23 : decode b_DP_leaf 23 = .ok (.aload_n 0, 1) := by decide +kernel
theorem d_DP_leaf_24 : decode b_DP_leaf 24 = .ok (.getfield 19, 3) := by decide +kernel
theorem d_DP_leaf_27 : decode b_DP_leaf 27 = .ok (.imul, 1) := by decide +kernel
theorem d_DP_leaf_28 : decode b_DP_leaf 28 = .ok (.iadd, 1) := by decide +kernel
theorem d_DP_leaf_29 : decode b_DP_leaf 29 = .ok (.bipush 11, 2) := by decide +kernel
theorem d_DP_leaf_31 : decode b_DP_leaf 31 = .ok (.aload_n 0, 1) := by decide +kernel
theorem d_DP_leaf_32 : decode b_DP_leaf 32 = .ok (.getfield 22, 3) := by decide +kernel
theorem d_DP_leaf_35 : decode b_DP_leaf 35 = .ok (.imul, 1) := by decide +kernel
theorem d_DP_leaf_36 : decode b_DP_leaf 36 = .ok (.iadd, 1) := by decide +kernel
theorem d_DP_leaf_37 : decode b_DP_leaf 37 = .ok (.bipush 13, 2) := by decide +kernel
theorem d_DP_leaf_39 : decode b_DP_leaf 39 = .ok (.aload_n 0, 1) := by decide +kernel
theorem d_DP_leaf_40 : decode b_DP_leaf 40 = .ok (.getfield 25, 3) := by decide +kernel
theorem d_DP_leaf_43 : decode b_DP_leaf 43 = .ok (.imul, 1) := by decide +kernel
theorem d_DP_leaf_44 : decode b_DP_leaf 44 = .ok (.iadd, 1) := by decide +kernel
theorem d_DP_leaf_45 : decode b_DP_leaf 45 = .ok (.ireturn, 1) := by decide +kernel
def DP_leaf (x0 : Nat) (σ : ST) : Option (Int32) :=
  if ¬ (x0 ∈ pL σ ∧ pK σ x0 = 3) then none else
  some (((((pP σ x0 0) + ((64 : Int32) * ((pP σ x0 1) + ((6 : Int32) * (pP σ x0 2))))) + ((3001 : Int32) * (pP σ x0 3))) + ((11 : Int32) * (pP σ x0 4))) + ((13 : Int32) * (pP σ x0 5)))
set_option maxRecDepth 100000 in
set_option maxHeartbeats 4000000 in
theorem m_DP_leaf (l : Launch) (D : va_G) (ad : Nat → Nat) (cs : Nat → ClassId) (eE : Nat × Nat) (x0 : Nat) (σ : ST) {res : Int32} (hf : DP_leaf x0 σ = some res) : MS l y_DP_leaf (Cond.code y_DP_leaf b_DP_leaf 1 r_DP_leaf :: BIG) 0 0 0 0 (wfm ad cs) D (ttf cs) eE [.ref x0] σ (PI res σ) := by
  refine MS.of (cc := b_DP_leaf) (maxL := 1) (ret := r_DP_leaf) (by decide) rfl (Nat.le_of_ble_eq_true rfl) (loc := [(0, .ref x0)]) rfl (fun X C Rt => ?_)
  unfold DP_leaf at hf
  refine j_aload_n C 0 rfl rfl d_DP_leaf_0 ?_
  obtain ⟨g1, hf⟩ := o_gn hf
  refine gp_Deposit_id C (Decidable.not_not.mp g1) (List.mem_cons_of_mem _ wd_3_122) d_DP_leaf_1 ?_
  refine j_bipush C (v := 64) (by decide) d_DP_leaf_4 ?_
  refine j_aload_n C 0 rfl rfl d_DP_leaf_6 ?_
  refine gp_Deposit_from C (Decidable.not_not.mp g1) (List.mem_cons_of_mem _ wd_3_124) d_DP_leaf_7 ?_
  refine j_bipush C (v := 6) (by decide) d_DP_leaf_10 ?_
  refine j_aload_n C 0 rfl rfl d_DP_leaf_12 ?_
  refine gp_Deposit_to C (Decidable.not_not.mp g1) (List.mem_cons_of_mem _ wd_3_127) d_DP_leaf_13 ?_
  refine j_imul C d_DP_leaf_16 ?_
  refine j_iadd C d_DP_leaf_17 ?_
  refine j_imul C d_DP_leaf_18 ?_
  refine j_iadd C d_DP_leaf_19 ?_
  refine j_sipush C (v := 3001) (by decide) d_DP_leaf_20 ?_
  refine j_aload_n C 0 rfl rfl d_DP_leaf_23 ?_
  refine gp_Deposit_coins C (Decidable.not_not.mp g1) (List.mem_cons_of_mem _ wd_3_130) d_DP_leaf_24 ?_
  refine j_imul C d_DP_leaf_27 ?_
  refine j_iadd C d_DP_leaf_28 ?_
  refine j_bipush C (v := 11) (by decide) d_DP_leaf_29 ?_
  refine j_aload_n C 0 rfl rfl d_DP_leaf_31 ?_
  refine gp_Deposit_after C (Decidable.not_not.mp g1) (List.mem_cons_of_mem _ wd_3_133) d_DP_leaf_32 ?_
  refine j_imul C d_DP_leaf_35 ?_
  refine j_iadd C d_DP_leaf_36 ?_
  refine j_bipush C (v := 13) (by decide) d_DP_leaf_37 ?_
  refine j_aload_n C 0 rfl rfl d_DP_leaf_39 ?_
  refine gp_Deposit_until C (Decidable.not_not.mp g1) (List.mem_cons_of_mem _ wd_3_136) d_DP_leaf_40 ?_
  refine j_imul C d_DP_leaf_43 ?_
  refine j_iadd C d_DP_leaf_44 ?_
  have hf := Option.some.inj hf
  subst hf
  exact j_iret C Rt (Nat.zero_le _) (Nat.zero_le _) d_DP_leaf_45 ⟨rfl, rfl⟩
theorem d_AR_fill_0 : decode b_AR_fill 0 = .ok (.iconst 0, 1) := by decide +kernel
theorem d_AR_fill_1 : decode b_AR_fill 1 = .ok (.istore_n 2, 1) := by decide +kernel
theorem d_AR_fill_2 : decode b_AR_fill 2 = .ok (.aload_n 0, 1) := by decide +kernel
theorem d_AR_fill_3 : decode b_AR_fill 3 = .ok (.arraylength, 1) := by decide +kernel
theorem d_AR_fill_4 : decode b_AR_fill 4 = .ok (.istore_n 3, 1) := by decide +kernel
theorem d_AR_fill_5 : decode b_AR_fill 5 = .ok (.iload_n 2, 1) := by decide +kernel
theorem d_AR_fill_6 : decode b_AR_fill 6 = .ok (.iload_n 3, 1) := by decide +kernel
theorem d_AR_fill_7 : decode b_AR_fill 7 = .ok (.if_icmp .ge 13, 3) := by decide +kernel
theorem d_AR_fill_10 : decode b_AR_fill 10 = .ok (.aload_n 0, 1) := by decide +kernel
theorem d_AR_fill_11 : decode b_AR_fill 11 = .ok (.iload_n 2, 1) := by decide +kernel
theorem d_AR_fill_12 : decode b_AR_fill 12 = .ok (.iload_n 1, 1) := by decide +kernel
theorem d_AR_fill_13 : decode b_AR_fill 13 = .ok (.iastore, 1) := by decide +kernel
theorem d_AR_fill_14 : decode b_AR_fill 14 = .ok (.iinc 2 1, 3) := by decide +kernel
theorem d_AR_fill_17 : decode b_AR_fill 17 = .ok (.goto (-12), 3) := by decide +kernel
theorem d_AR_fill_20 : decode b_AR_fill 20 = .ok (.return_, 1) := by decide +kernel
def AR_fill_b5 (kb5 : Int32 → Int32 → Int32 → ST → Option (ST)) (x1 : Int32) (x2 : Int32) (x3 : Int32) (σ : ST) : Option (ST) :=
  if x3 ≤ x2 then (some σ)
  else (if x2 < 0 ∨ 64 ≤ x2.toNatClampNeg then none else
  nmS (sA σ 7 x2.toNatClampNeg x1) fun σ13 =>
  kb5 x1 (x2 + 1) x3 σ13)
set_option maxRecDepth 100000 in
set_option maxHeartbeats 4000000 in
theorem w_AR_fill_b5 {X : JX} (C : JC X l D (ttf cs) eE b_AR_fill "java/util/Arrays" 4 (Cond.code y_AR_fill b_AR_fill 4 r_AR_fill :: BIG) 0 0 0 0) {res : ST} (Rt : JR X (wfm ad cs) 0 0 (PV res) r_AR_fill "fill") {kb5 : Int32 → Int32 → Int32 → ST → Option (ST)} (hk5 : ∀ (x1 : Int32) (x2 : Int32) (x3 : Int32) (σ : ST), kb5 x1 x2 x3 σ = some res → J (wfm ad cs) X 4 0 0 σ 5 [(0, .ref (ad 17)), (1, .int x1), (2, .int x2), (3, .int x3)] []) (x1 : Int32) (x2 : Int32) (x3 : Int32) (σ : ST) (hf : AR_fill_b5 kb5 x1 x2 x3 σ = some res) : J (wfm ad cs) X 4 0 0 σ 5 [(0, .ref (ad 17)), (1, .int x1), (2, .int x2), (3, .int x3)] [] := by
  unfold AR_fill_b5 at hf
  refine j_iload_n C 2 rfl rfl d_AR_fill_5 ?_
  refine j_iload_n C 3 rfl rfl d_AR_fill_6 ?_
  refine j_icmp_ge C d_AR_fill_7 rfl (fun c7 => ?_) (fun c7 => ?_)
  · have hf := o_it c7 hf
    have hf := Option.some.inj hf
    subst hf
    exact j_vret C Rt (Nat.zero_le _) (Nat.zero_le _) d_AR_fill_20 ⟨rfl, rfl⟩
  · have hf := o_if c7 hf
    refine j_aload_n C 0 rfl rfl d_AR_fill_10 ?_
    refine j_iload_n C 2 rfl rfl d_AR_fill_11 ?_
    refine j_iload_n C 1 rfl rfl d_AR_fill_12 ?_
    obtain ⟨g13, hf⟩ := o_gn hf
    obtain ⟨σ13, eσ13, hf⟩ := o_nmS hf
    refine sa_lrow C g13 eσ13 d_AR_fill_13 ?_
    refine j_iinc C 2 rfl (v := (x2 + 1)) (inc_p1 _) (by decide) (loc' := [(2, .int (x2 + 1)), (0, .ref (ad 17)), (1, .int x1), (3, .int x3)]) rfl d_AR_fill_14 ?_
    refine j_goto C d_AR_fill_17 rfl ?_
    refine j_sub [1, 2, 0, 3] rfl ?_
    exact hk5 x1 (x2 + 1) x3 σ13 hf
def AR_fill_L5 : Nat → Int32 → Int32 → Int32 → ST → Option (ST)
  | 0, _, _, _, _ => none
  | N + 1, x1, x2, x3, σ => AR_fill_b5 (fun x1 x2 x3 σ => AR_fill_L5 N x1 x2 x3 σ) x1 x2 x3 σ
theorem w_AR_fill_L5 {X : JX} (C : JC X l D (ttf cs) eE b_AR_fill "java/util/Arrays" 4 (Cond.code y_AR_fill b_AR_fill 4 r_AR_fill :: BIG) 0 0 0 0) {res : ST} (Rt : JR X (wfm ad cs) 0 0 (PV res) r_AR_fill "fill")  (N : Nat) (x1 : Int32) (x2 : Int32) (x3 : Int32) (σ : ST) (hf : AR_fill_L5 N x1 x2 x3 σ = some res) : J (wfm ad cs) X 4 0 0 σ 5 [(0, .ref (ad 17)), (1, .int x1), (2, .int x2), (3, .int x3)] [] := by
  induction N generalizing x1 x2 x3 σ with
  | zero => exact nomatch hf
  | succ N ih => exact w_AR_fill_b5 C Rt  (fun x1 x2 x3 σ h => ih x1 x2 x3 σ h) x1 x2 x3 σ hf
def AR_fill (x1 : Int32) (σ : ST) : Option (ST) :=
  nmI (nI 64) fun x3_4 =>
  AR_fill_L5 FU x1 (0 : Int32) x3_4 σ
set_option maxRecDepth 100000 in
set_option maxHeartbeats 4000000 in
theorem m_AR_fill (l : Launch) (D : va_G) (ad : Nat → Nat) (cs : Nat → ClassId) (eE : Nat × Nat) (x1 : Int32) (σ : ST) {res : ST} (hf : AR_fill x1 σ = some res) : MS l y_AR_fill (Cond.code y_AR_fill b_AR_fill 4 r_AR_fill :: BIG) 0 0 0 0 (wfm ad cs) D (ttf cs) eE [.ref (ad 17), .int x1] σ (PV res) := by
  refine MS.of (cc := b_AR_fill) (maxL := 4) (ret := r_AR_fill) (by decide) rfl (Nat.le_of_ble_eq_true rfl) (loc := [(0, .ref (ad 17)), (1, .int x1)]) rfl (fun X C Rt => ?_)
  unfold AR_fill at hf
  refine j_iconst C (v := 0) (by decide) d_AR_fill_0 ?_
  refine j_istore_n C rfl (by decide) (loc' := [(2, .int (0 : Int32)), (0, .ref (ad 17)), (1, .int x1)]) rfl d_AR_fill_1 ?_
  refine j_aload_n C 1 rfl rfl d_AR_fill_2 ?_
  refine al_lrow C d_AR_fill_3 ?_
  obtain ⟨x3_4, ex3_4, hf⟩ := o_nmI hf
  refine j_topI ex3_4 ?_
  refine j_istore_n C rfl (by decide) (loc' := [(3, .int x3_4), (2, .int (0 : Int32)), (0, .ref (ad 17)), (1, .int x1)]) rfl d_AR_fill_4 ?_
  refine j_sub [2, 3, 1, 0] rfl ?_
  exact w_AR_fill_L5 C Rt  FU x1 (0 : Int32) x3_4 σ hf
theorem d_LN_side_0 : decode b_LN_side 0 = .ok (.iload_n 0, 1) := by decide +kernel
theorem d_LN_side_1 : decode b_LN_side 1 = .ok (.bipush 6, 2) := by decide +kernel
theorem d_LN_side_3 : decode b_LN_side 3 = .ok (.imul, 1) := by decide +kernel
theorem d_LN_side_4 : decode b_LN_side 4 = .ok (.iload_n 1, 1) := by decide +kernel
theorem d_LN_side_5 : decode b_LN_side 5 = .ok (.iadd, 1) := by decide +kernel
theorem d_LN_side_6 : decode b_LN_side 6 = .ok (.iconst 2, 1) := by decide +kernel
theorem d_LN_side_7 : decode b_LN_side 7 = .ok (.imul, 1) := by decide +kernel
theorem d_LN_side_8 : decode b_LN_side 8 = .ok (.iload_n 2, 1) := by decide +kernel
theorem d_LN_side_9 : decode b_LN_side 9 = .ok (.iadd, 1) := by decide +kernel
theorem d_LN_side_10 : decode b_LN_side 10 = .ok (.iconst 1, 1) := by decide +kernel
theorem d_LN_side_11 : decode b_LN_side 11 = .ok (.isub, 1) := by decide +kernel
theorem d_LN_side_12 : decode b_LN_side 12 = .ok (.ireturn, 1) := by decide +kernel
def LN_side (x0 : Int32) (x1 : Int32) (x2 : Int32) : Option (Int32) :=
  some (((((x0 * (6 : Int32)) + x1) * (2 : Int32)) + x2) - (1 : Int32))
set_option maxRecDepth 100000 in
set_option maxHeartbeats 4000000 in
theorem m_LN_side (l : Launch) (D : va_G) (ad : Nat → Nat) (cs : Nat → ClassId) (eE : Nat × Nat) (x0 : Int32) (x1 : Int32) (x2 : Int32) (σ : ST) {res : Int32} (hf : LN_side x0 x1 x2 = some res) : MS l y_LN_side (Cond.code y_LN_side b_LN_side 3 r_LN_side :: BIG) 0 0 0 0 (wfm ad cs) D (ttf cs) eE [.int x0, .int x1, .int x2] σ (PI res σ) := by
  refine MS.of (cc := b_LN_side) (maxL := 3) (ret := r_LN_side) (by decide) rfl (Nat.le_of_ble_eq_true rfl) (loc := [(0, .int x0), (1, .int x1), (2, .int x2)]) rfl (fun X C Rt => ?_)
  unfold LN_side at hf
  refine j_iload_n C 0 rfl rfl d_LN_side_0 ?_
  refine j_bipush C (v := 6) (by decide) d_LN_side_1 ?_
  refine j_imul C d_LN_side_3 ?_
  refine j_iload_n C 1 rfl rfl d_LN_side_4 ?_
  refine j_iadd C d_LN_side_5 ?_
  refine j_iconst C (v := 2) (by decide) d_LN_side_6 ?_
  refine j_imul C d_LN_side_7 ?_
  refine j_iload_n C 2 rfl rfl d_LN_side_8 ?_
  refine j_iadd C d_LN_side_9 ?_
  refine j_iconst C (v := 1) (by decide) d_LN_side_10 ?_
  refine j_isub C d_LN_side_11 ?_
  have hf := Option.some.inj hf
  subst hf
  exact j_iret C Rt (Nat.zero_le _) (Nat.zero_le _) d_LN_side_12 ⟨rfl, rfl⟩
theorem d_LN_leaf_0 : decode b_LN_leaf 0 = .ok (.iload_n 1, 1) := by decide +kernel
theorem d_LN_leaf_1 : decode b_LN_leaf 1 = .ok (.iload_n 2, 1) := by decide +kernel
theorem d_LN_leaf_2 : decode b_LN_leaf 2 = .ok (.iload_n 3, 1) := by decide +kernel
theorem d_LN_leaf_3 : decode b_LN_leaf 3 = .ok (.invokestatic 22, 3) := by decide +kernel
theorem d_LN_leaf_6 : decode b_LN_leaf 6 = .ok (.istore 4, 2) := by decide +kernel
theorem d_LN_leaf_8 : decode b_LN_leaf 8 = .ok (.iload_n 2, 1) := by decide +kernel
theorem d_LN_leaf_9 : decode b_LN_leaf 9 = .ok (.iload_n 1, 1) := by decide +kernel
theorem d_LN_leaf_10 : decode b_LN_leaf 10 = .ok (.iload_n 3, 1) := by decide +kernel
theorem d_LN_leaf_11 : decode b_LN_leaf 11 = .ok (.invokestatic 22, 3) := by decide +kernel
theorem d_LN_leaf_14 : decode b_LN_leaf 14 = .ok (.istore 5, 2) := by decide +kernel
theorem d_LN_leaf_16 : decode b_LN_leaf 16 = .ok (.aload_n 0, 1) := by decide +kernel
theorem d_LN_leaf_17 : decode b_LN_leaf 17 = .ok (.getfield 11, 3) := by decide +kernel
theorem d_LN_leaf_20 : decode b_LN_leaf 20 = .ok (.iload 4, 2) := by decide +kernel
theorem d_LN_leaf_22 : decode b_LN_leaf 22 = .ok (.iaload, 1) := by decide +kernel
theorem d_LN_leaf_23 : decode b_LN_leaf 23 = .ok (.bipush 31, 2) := by decide +kernel
theorem d_LN_leaf_25 : decode b_LN_leaf 25 = .ok (.aload_n 0, 1) := by decide +kernel
theorem d_LN_leaf_26 : decode b_LN_leaf 26 = .ok (.getfield 15, 3) := by decide +kernel
theorem d_LN_leaf_29 : decode b_LN_leaf 29 = .ok (.iload 4, 2) := by decide +kernel
theorem d_LN_leaf_31 : decode b_LN_leaf 31 = .ok (.iaload, 1) := by decide +kernel
theorem d_LN_leaf_32 : decode b_LN_leaf 32 = .ok (.imul, 1) := by decide +kernel
theorem d_LN_leaf_33 : decode b_LN_leaf 33 = .ok (.iadd, 1) := by decide +kernel
theorem d_LN_leaf_34 : decode b_LN_leaf 34 = .ok (.bipush 17, 2) := by decide +kernel
theorem d_LN_leaf_36 : decode b_LN_leaf 36 = .ok (.aload_n 0, 1) := by decide +kernel
theorem d_LN_leaf_37 : decode b_LN_leaf 37 = .ok (.getfield 15, 3) := by decide +kernel
theorem d_LN_leaf_40 : decode b_LN_leaf 40 = .ok (.iload 5, 2) := by decide +kernel
theorem d_LN_leaf_42 : decode b_LN_leaf 42 = .ok (.iaload, 1) := by decide +kernel
theorem d_LN_leaf_43 : decode b_LN_leaf 43 = .ok (.imul, 1) := by decide +kernel
theorem d_LN_leaf_44 : decode b_LN_leaf 44 = .ok (.iadd, 1) := by decide +kernel
theorem d_LN_leaf_45 : decode b_LN_leaf 45 = .ok (.aload_n 0, 1) := by decide +kernel
theorem d_LN_leaf_46 : decode b_LN_leaf 46 = .ok (.getfield 18, 3) := by decide +kernel
theorem d_LN_leaf_49 : decode b_LN_leaf 49 = .ok (.iload 4, 2) := by decide +kernel
theorem d_LN_leaf_51 : decode b_LN_leaf 51 = .ok (.baload, 1) := by decide +kernel
theorem d_LN_leaf_52 : decode b_LN_leaf 52 = .ok (.ifCond .eq 8, 3) := by decide +kernel
theorem d_LN_leaf_55 : decode b_LN_leaf 55 = .ok (.ldc 30, 2) := by decide +kernel
theorem d_LN_leaf_57 : decode b_LN_leaf 57 = .ok (.goto 4, 3) := by decide +kernel
theorem d_LN_leaf_60 : decode b_LN_leaf 60 = .ok (.iconst 0, 1) := by decide +kernel
theorem d_LN_leaf_61 : decode b_LN_leaf 61 = .ok (.iadd, 1) := by decide +kernel
theorem d_LN_leaf_62 : decode b_LN_leaf 62 = .ok (.aload_n 0, 1) := by decide +kernel
theorem d_LN_leaf_63 : decode b_LN_leaf 63 = .ok (.getfield 18, 3) := by decide +kernel
theorem d_LN_leaf_66 : decode b_LN_leaf 66 = .ok (.iload 5, 2) := by decide +kernel
theorem d_LN_leaf_68 : decode b_LN_leaf 68 = .ok (.baload, 1) := by decide +kernel
theorem d_LN_leaf_69 : decode b_LN_leaf 69 = .ok (.ifCond .eq 8, 3) := by decide +kernel
theorem d_LN_leaf_72 : decode b_LN_leaf 72 = .ok (.ldc 31, 2) := by decide +kernel
theorem d_LN_leaf_74 : decode b_LN_leaf 74 = .ok (.goto 4, 3) := by decide +kernel
theorem d_LN_leaf_77 : decode b_LN_leaf 77 = .ok (.iconst 0, 1) := by decide +kernel
theorem d_LN_leaf_78 : decode b_LN_leaf 78 = .ok (.iadd, 1) := by decide +kernel
theorem d_LN_leaf_79 : decode b_LN_leaf 79 = .ok (.ireturn, 1) := by decide +kernel
def LN_leaf_c61 (x5 : Int32) (s0 : Int32) (s1 : Int32) (σ : ST) : Option (Int32) :=
  if x5 < 0 ∨ 72 ≤ x5.toNatClampNeg then none else
  if (gA σ 2 x5.toNatClampNeg) = 0 then (some ((s0 + s1) + (0 : Int32)))
  else (some ((s0 + s1) + (2000003 : Int32)))
set_option maxRecDepth 100000 in
set_option maxHeartbeats 4000000 in
theorem w_LN_leaf_c61 {X : JX} (C : JC X l D (ttf cs) eE b_LN_leaf "TollLedger$Lines" 6 (Cond.code y_LN_leaf b_LN_leaf 6 r_LN_leaf :: BIG) 1 22 0 0) {σ : ST} {res : Int32} (Rt : JR X (wfm ad cs) 0 0 (PI res σ) r_LN_leaf "leaf")  (x5 : Int32) (s0 : Int32) (s1 : Int32) (hf : LN_leaf_c61 x5 s0 s1 σ = some res) : J (wfm ad cs) X 6 0 0 σ 61 [(0, .ref (ad 2)), (5, .int x5)] [.int s1, .int s0] := by
  unfold LN_leaf_c61 at hf
  refine j_iadd C d_LN_leaf_61 ?_
  refine j_aload_n C 0 rfl rfl d_LN_leaf_62 ?_
  refine g_LN_quiets C (List.mem_cons_of_mem _ wd_1_47) d_LN_leaf_63 ?_
  refine j_iload C 1 rfl d_LN_leaf_66 ?_
  obtain ⟨g68, hf⟩ := o_gn hf
  refine la_qui C g68 d_LN_leaf_68 ?_
  refine j_if_eq C d_LN_leaf_69 rfl (fun c69 => ?_) (fun c69 => ?_)
  · have hf := o_it c69 hf
    refine j_iconst C (v := 0) (by decide) d_LN_leaf_77 ?_
    refine j_iadd C d_LN_leaf_78 ?_
    have hf := Option.some.inj hf
    subst hf
    exact j_iret C Rt (Nat.zero_le _) (Nat.zero_le _) d_LN_leaf_79 ⟨rfl, rfl⟩
  · have hf := o_if c69 hf
    refine j_ldc C (v := 2000003) (List.mem_cons_of_mem _ wd_3_227) d_LN_leaf_72 ?_
    refine j_goto C d_LN_leaf_74 rfl ?_
    refine j_iadd C d_LN_leaf_78 ?_
    have hf := Option.some.inj hf
    subst hf
    exact j_iret C Rt (Nat.zero_le _) (Nat.zero_le _) d_LN_leaf_79 ⟨rfl, rfl⟩
def LN_leaf (x1 : Int32) (x2 : Int32) (x3 : Int32) (σ : ST) : Option (Int32) :=
  bd1 (LN_side x1 x2 x3) fun r3 =>
  bd1 (LN_side x2 x1 x3) fun r11 =>
  if r3 < 0 ∨ 72 ≤ r3.toNatClampNeg then none else
  if r11 < 0 ∨ 72 ≤ r11.toNatClampNeg then none else
  if (gA σ 2 r3.toNatClampNeg) = 0 then (LN_leaf_c61 r11 (((gA σ 0 r3.toNatClampNeg) + ((31 : Int32) * (gA σ 1 r3.toNatClampNeg))) + ((17 : Int32) * (gA σ 1 r11.toNatClampNeg))) (0 : Int32) σ)
  else (LN_leaf_c61 r11 (((gA σ 0 r3.toNatClampNeg) + ((31 : Int32) * (gA σ 1 r3.toNatClampNeg))) + ((17 : Int32) * (gA σ 1 r11.toNatClampNeg))) (1000003 : Int32) σ)
set_option maxRecDepth 100000 in
set_option maxHeartbeats 4000000 in
theorem m_LN_leaf (l : Launch) (D : va_G) (ad : Nat → Nat) (cs : Nat → ClassId) (eE : Nat × Nat) (x1 : Int32) (x2 : Int32) (x3 : Int32) (σ : ST) {res : Int32} (hf : LN_leaf x1 x2 x3 σ = some res) : MS l y_LN_leaf (Cond.code y_LN_leaf b_LN_leaf 6 r_LN_leaf :: BIG) 1 22 0 0 (wfm ad cs) D (ttf cs) eE [.ref (ad 2), .int x1, .int x2, .int x3] σ (PI res σ) := by
  refine MS.of (cc := b_LN_leaf) (maxL := 6) (ret := r_LN_leaf) (by decide) rfl (Nat.le_of_ble_eq_true rfl) (loc := [(0, .ref (ad 2)), (1, .int x1), (2, .int x2), (3, .int x3)]) rfl (fun X C Rt => ?_)
  unfold LN_leaf at hf
  refine j_iload_n C 1 rfl rfl d_LN_leaf_0 ?_
  refine j_iload_n C 2 rfl rfl d_LN_leaf_1 ?_
  refine j_iload_n C 3 rfl rfl d_LN_leaf_2 ?_
  obtain ⟨r3, h3, hf⟩ := o_b1 hf
  refine j_callS C [.int x1, .int x2, .int x3] [] (m_LN_side _ _ _ _ _ x1 x2 x3 σ h3) (gdS wd_2_47 wd_2_48 wd_1_3 wc_LN_side) hy_LN_side rfl rfl (by decide) (by decide) (by decide) (by decide) (Nat.le_of_ble_eq_true rfl) d_LN_leaf_3 (j_kI (r := r3) (σ1 := σ) ?_)
  refine j_istore C (by decide) (loc' := [(4, .int r3), (0, .ref (ad 2)), (1, .int x1), (2, .int x2), (3, .int x3)]) rfl d_LN_leaf_6 ?_
  refine j_iload_n C 3 rfl rfl d_LN_leaf_8 ?_
  refine j_iload_n C 2 rfl rfl d_LN_leaf_9 ?_
  refine j_iload_n C 4 rfl rfl d_LN_leaf_10 ?_
  obtain ⟨r11, h11, hf⟩ := o_b1 hf
  refine j_callS C [.int x2, .int x1, .int x3] [] (m_LN_side _ _ _ _ _ x2 x1 x3 σ h11) (gdS wd_2_47 wd_2_48 wd_1_3 wc_LN_side) hy_LN_side rfl rfl (by decide) (by decide) (by decide) (by decide) (Nat.le_of_ble_eq_true rfl) d_LN_leaf_11 (j_kI (r := r11) (σ1 := σ) ?_)
  refine j_istore C (by decide) (loc' := [(5, .int r11), (4, .int r3), (0, .ref (ad 2)), (1, .int x1), (2, .int x2), (3, .int x3)]) rfl d_LN_leaf_14 ?_
  refine j_aload_n C 2 rfl rfl d_LN_leaf_16 ?_
  refine g_LN_balances C (List.mem_cons_of_mem _ wd_1_42) d_LN_leaf_17 ?_
  refine j_iload C 1 rfl d_LN_leaf_20 ?_
  obtain ⟨g22, hf⟩ := o_gn hf
  refine la_bal C g22 d_LN_leaf_22 ?_
  refine j_bipush C (v := 31) (by decide) d_LN_leaf_23 ?_
  refine j_aload_n C 2 rfl rfl d_LN_leaf_25 ?_
  refine g_LN_limits C (List.mem_cons_of_mem _ wd_1_45) d_LN_leaf_26 ?_
  refine j_iload C 1 rfl d_LN_leaf_29 ?_
  refine la_lim C g22 d_LN_leaf_31 ?_
  refine j_imul C d_LN_leaf_32 ?_
  refine j_iadd C d_LN_leaf_33 ?_
  refine j_bipush C (v := 17) (by decide) d_LN_leaf_34 ?_
  refine j_aload_n C 2 rfl rfl d_LN_leaf_36 ?_
  refine g_LN_limits C (List.mem_cons_of_mem _ wd_1_45) d_LN_leaf_37 ?_
  refine j_iload C 0 rfl d_LN_leaf_40 ?_
  obtain ⟨g42, hf⟩ := o_gn hf
  refine la_lim C g42 d_LN_leaf_42 ?_
  refine j_imul C d_LN_leaf_43 ?_
  refine j_iadd C d_LN_leaf_44 ?_
  refine j_aload_n C 2 rfl rfl d_LN_leaf_45 ?_
  refine g_LN_quiets C (List.mem_cons_of_mem _ wd_1_47) d_LN_leaf_46 ?_
  refine j_iload C 1 rfl d_LN_leaf_49 ?_
  refine la_qui C g22 d_LN_leaf_51 ?_
  refine j_if_eq C d_LN_leaf_52 rfl (fun c52 => ?_) (fun c52 => ?_)
  · have hf := o_it c52 hf
    refine j_iconst C (v := 0) (by decide) d_LN_leaf_60 ?_
    refine j_sub [2, 0] rfl ?_
    exact w_LN_leaf_c61 C Rt  r11 (((gA σ 0 r3.toNatClampNeg) + ((31 : Int32) * (gA σ 1 r3.toNatClampNeg))) + ((17 : Int32) * (gA σ 1 r11.toNatClampNeg))) (0 : Int32) hf
  · have hf := o_if c52 hf
    refine j_ldc C (v := 1000003) (List.mem_cons_of_mem _ wd_3_226) d_LN_leaf_55 ?_
    refine j_goto C d_LN_leaf_57 rfl ?_
    refine j_sub [2, 0] rfl ?_
    exact w_LN_leaf_c61 C Rt  r11 (((gA σ 0 r3.toNatClampNeg) + ((31 : Int32) * (gA σ 1 r3.toNatClampNeg))) + ((17 : Int32) * (gA σ 1 r11.toNatClampNeg))) (1000003 : Int32) hf
theorem d_LV_fillLines_0 : decode b_LV_fillLines 0 = .ok (.bipush 6, 2) := by decide +kernel
theorem d_LV_fillLines_2 : decode b_LV_fillLines 2 = .ok (.istore_n 2, 1) := by decide +kernel
theorem d_LV_fillLines_3 : decode b_LV_fillLines 3 = .ok (.iconst 0, 1) := by decide +kernel
theorem d_LV_fillLines_4 : decode b_LV_fillLines 4 = .ok (.istore_n 3, 1) := by decide +kernel
theorem d_LV_fillLines_5 : decode b_LV_fillLines 5 = .ok (.iload_n 3, 1) := by decide +kernel
theorem d_LV_fillLines_6 : decode b_LV_fillLines 6 = .ok (.bipush 6, 2) := by decide +kernel
theorem d_LV_fillLines_8 : decode b_LV_fillLines 8 = .ok (.if_icmp .ge 60, 3) := by decide +kernel
theorem d_LV_fillLines_11 : decode b_LV_fillLines 11 = .ok (.iload_n 3, 1) := by decide +kernel
theorem d_LV_fillLines_12 : decode b_LV_fillLines 12 = .ok (.iconst 1, 1) := by decide +kernel
theorem d_LV_fillLines_13 : decode b_LV_fillLines 13 = .ok (.iadd, 1) := by decide +kernel
theorem d_LV_fillLines_14 : decode b_LV_fillLines 14 = .ok (.istore 4, 2) := by decide +kernel
theorem d_LV_fillLines_16 : decode b_LV_fillLines 16 = .ok (.iload 4, 2) := by decide +kernel
theorem d_LV_fillLines_18 : decode b_LV_fillLines 18 = .ok (.bipush 6, 2) := by decide +kernel
theorem d_LV_fillLines_20 : decode b_LV_fillLines 20 = .ok (.if_icmp .ge 42, 3) := by decide +kernel
theorem d_LV_fillLines_23 : decode b_LV_fillLines 23 = .ok (.aload_n 0, 1) := by decide +kernel
theorem d_LV_fillLines_24 : decode b_LV_fillLines 24 = .ok (.getfield 11, 3) := by decide +kernel
theorem d_LV_fillLines_27 : decode b_LV_fillLines 27 = .ok (.iload_n 2, 1) := by decide +kernel
theorem d_LV_fillLines_28 : decode b_LV_fillLines 28 = .ok (.aload_n 1, 1) := by decide +kernel
theorem d_LV_fillLines_29 : decode b_LV_fillLines 29 = .ok (.iload_n 3, 1) := by decide +kernel
theorem d_LV_fillLines_30 : decode b_LV_fillLines 30 = .ok (.iload 4, 2) := by decide +kernel
theorem d_LV_fillLines_32 : decode b_LV_fillLines 32 = .ok (.iconst 1, 1) := by decide +kernel
theorem d_LV_fillLines_33 : decode b_LV_fillLines 33 = .ok (.invokevirtual 63, 3) := by decide +kernel
theorem d_LV_fillLines_36 : decode b_LV_fillLines 36 = .ok (.iastore, 1) := by decide +kernel
theorem d_LV_fillLines_37 : decode b_LV_fillLines 37 = .ok (.aload_n 0, 1) := by decide +kernel
theorem d_LV_fillLines_38 : decode b_LV_fillLines 38 = .ok (.getfield 11, 3) := by decide +kernel
theorem d_LV_fillLines_41 : decode b_LV_fillLines 41 = .ok (.iload_n 2, 1) := by decide +kernel
theorem d_LV_fillLines_42 : decode b_LV_fillLines 42 = .ok (.iconst 1, 1) := by decide +kernel
theorem d_LV_fillLines_43 : decode b_LV_fillLines 43 = .ok (.iadd, 1) := by decide +kernel
theorem d_LV_fillLines_44 : decode b_LV_fillLines 44 = .ok (.aload_n 1, 1) := by decide +kernel
theorem d_LV_fillLines_45 : decode b_LV_fillLines 45 = .ok (.iload_n 3, 1) := by decide +kernel
theorem d_LV_fillLines_46 : decode b_LV_fillLines 46 = .ok (.iload 4, 2) := by decide +kernel
theorem d_LV_fillLines_48 : decode b_LV_fillLines 48 = .ok (.iconst 2, 1) := by decide +kernel
theorem d_LV_fillLines_49 : decode b_LV_fillLines 49 = .ok (.invokevirtual 63, 3) := by decide +kernel
theorem d_LV_fillLines_52 : decode b_LV_fillLines 52 = .ok (.iastore, 1) := by decide +kernel
theorem d_LV_fillLines_53 : decode b_LV_fillLines 53 = .ok (.iinc 2 2, 3) := by decide +kernel
theorem d_LV_fillLines_56 : decode b_LV_fillLines 56 = .ok (.iinc 4 1, 3) := by decide +kernel
theorem d_LV_fillLines_59 : decode b_LV_fillLines 59 = .ok (.goto (-43), 3) := by decide +kernel
theorem d_LV_fillLines_62 : decode b_LV_fillLines 62 = .ok (.iinc 3 1, 3) := by decide +kernel
theorem d_LV_fillLines_65 : decode b_LV_fillLines 65 = .ok (.goto (-60), 3) := by decide +kernel
theorem d_LV_fillLines_68 : decode b_LV_fillLines 68 = .ok (.return_, 1) := by decide +kernel
def LV_fillLines_b16 (kb5 : Int32 → Int32 → ST → Option (ST)) (kb16 : Int32 → Int32 → Int32 → ST → Option (ST)) (x2 : Int32) (x3 : Int32) (x4 : Int32) (σ : ST) : Option (ST) :=
  if (6 : Int32) ≤ x4 then (kb5 x2 (x3 + 1) σ)
  else (bd1 (LN_leaf x3 x4 (1 : Int32) σ) fun r33 =>
  if x2 < 0 ∨ 64 ≤ x2.toNatClampNeg then none else
  nmS (sA σ 7 x2.toNatClampNeg r33) fun σ36 =>
  bd1 (LN_leaf x3 x4 (2 : Int32) σ36) fun r49 =>
  if (x2 + (1 : Int32)) < 0 ∨ 64 ≤ (x2 + (1 : Int32)).toNatClampNeg then none else
  nmS (sA σ36 7 (x2 + (1 : Int32)).toNatClampNeg r49) fun σ52 =>
  kb16 (x2 + 2) x3 (x4 + 1) σ52)
set_option maxRecDepth 100000 in
set_option maxHeartbeats 4000000 in
theorem w_LV_fillLines_b16 {X : JX} (C : JC X l D (ttf cs) eE b_LV_fillLines "TollLedger$Leaves" 5 (Cond.code y_LV_fillLines b_LV_fillLines 5 r_LV_fillLines :: BIG) 2 47 0 0) {res : ST} (Rt : JR X (wfm ad cs) 0 0 (PV res) r_LV_fillLines "fillLines") {kb5 : Int32 → Int32 → ST → Option (ST)} {kb16 : Int32 → Int32 → Int32 → ST → Option (ST)} (hk5 : ∀ (x2 : Int32) (x3 : Int32) (σ : ST), kb5 x2 x3 σ = some res → J (wfm ad cs) X 5 0 0 σ 5 [(0, .ref (ad 5)), (1, .ref (ad 2)), (2, .int x2), (3, .int x3)] []) (hk16 : ∀ (x2 : Int32) (x3 : Int32) (x4 : Int32) (σ : ST), kb16 x2 x3 x4 σ = some res → J (wfm ad cs) X 5 0 0 σ 16 [(0, .ref (ad 5)), (1, .ref (ad 2)), (2, .int x2), (3, .int x3), (4, .int x4)] []) (x2 : Int32) (x3 : Int32) (x4 : Int32) (σ : ST) (hf : LV_fillLines_b16 kb5 kb16 x2 x3 x4 σ = some res) : J (wfm ad cs) X 5 0 0 σ 16 [(0, .ref (ad 5)), (1, .ref (ad 2)), (2, .int x2), (3, .int x3), (4, .int x4)] [] := by
  unfold LV_fillLines_b16 at hf
  refine j_iload C 4 rfl d_LV_fillLines_16 ?_
  refine j_bipush C (v := 6) (by decide) d_LV_fillLines_18 ?_
  refine j_icmp_ge C d_LV_fillLines_20 rfl (fun c20 => ?_) (fun c20 => ?_)
  · have hf := o_it c20 hf
    refine j_iinc C 3 rfl (v := (x3 + 1)) (inc_p1 _) (by decide) (loc' := [(3, .int (x3 + 1)), (0, .ref (ad 5)), (1, .ref (ad 2)), (2, .int x2), (4, .int x4)]) rfl d_LV_fillLines_62 ?_
    refine j_goto C d_LV_fillLines_65 rfl ?_
    refine j_sub [1, 2, 3, 0] rfl ?_
    exact hk5 x2 (x3 + 1) σ hf
  · have hf := o_if c20 hf
    refine j_aload_n C 0 rfl rfl d_LV_fillLines_23 ?_
    refine g_LV_row C (List.mem_cons_of_mem _ wd_1_213) d_LV_fillLines_24 ?_
    refine j_iload_n C 2 rfl rfl d_LV_fillLines_27 ?_
    refine j_aload_n C 1 rfl rfl d_LV_fillLines_28 ?_
    refine j_iload_n C 3 rfl rfl d_LV_fillLines_29 ?_
    refine j_iload C 4 rfl d_LV_fillLines_30 ?_
    refine j_iconst C (v := 1) (by decide) d_LV_fillLines_32 ?_
    obtain ⟨r33, h33, hf⟩ := o_b1 hf
    refine j_callV (ci := 2) (Cn := "TollLedger$Lines") (T := T_LN) (N := 3) C [.int x3, .int x4, .int (1 : Int32)] [.int x2, .ref (ad 17)] (m_LN_leaf _ _ _ _ _ x3 x4 (1 : Int32) σ h33) (gdV wd_3_222 wd_3_223 wd_3_224 wd_1_3 wc_LN_leaf) hy_LN_leaf rfl ⟨2, rfl⟩ rfl rfl (by decide) (by decide) (by decide) (by decide) (Nat.le_of_ble_eq_true rfl) d_LV_fillLines_33 (j_kI (r := r33) (σ1 := σ) ?_)
    obtain ⟨g36, hf⟩ := o_gn hf
    obtain ⟨σ36, eσ36, hf⟩ := o_nmS hf
    refine sa_lrow C g36 eσ36 d_LV_fillLines_36 ?_
    refine j_aload_n C 0 rfl rfl d_LV_fillLines_37 ?_
    refine g_LV_row C (List.mem_cons_of_mem _ wd_1_213) d_LV_fillLines_38 ?_
    refine j_iload_n C 2 rfl rfl d_LV_fillLines_41 ?_
    refine j_iconst C (v := 1) (by decide) d_LV_fillLines_42 ?_
    refine j_iadd C d_LV_fillLines_43 ?_
    refine j_aload_n C 1 rfl rfl d_LV_fillLines_44 ?_
    refine j_iload_n C 3 rfl rfl d_LV_fillLines_45 ?_
    refine j_iload C 4 rfl d_LV_fillLines_46 ?_
    refine j_iconst C (v := 2) (by decide) d_LV_fillLines_48 ?_
    obtain ⟨r49, h49, hf⟩ := o_b1 hf
    refine j_callV (ci := 2) (Cn := "TollLedger$Lines") (T := T_LN) (N := 3) C [.int x3, .int x4, .int (2 : Int32)] [.int (x2 + (1 : Int32)), .ref (ad 17)] (m_LN_leaf _ _ _ _ _ x3 x4 (2 : Int32) σ36 h49) (gdV wd_3_222 wd_3_223 wd_3_224 wd_1_3 wc_LN_leaf) hy_LN_leaf rfl ⟨2, rfl⟩ rfl rfl (by decide) (by decide) (by decide) (by decide) (Nat.le_of_ble_eq_true rfl) d_LV_fillLines_49 (j_kI (r := r49) (σ1 := σ36) ?_)
    obtain ⟨g52, hf⟩ := o_gn hf
    obtain ⟨σ52, eσ52, hf⟩ := o_nmS hf
    refine sa_lrow C g52 eσ52 d_LV_fillLines_52 ?_
    refine j_iinc C 2 rfl (v := (x2 + 2)) (inc_p2 _) (by decide) (loc' := [(2, .int (x2 + 2)), (0, .ref (ad 5)), (1, .ref (ad 2)), (3, .int x3), (4, .int x4)]) rfl d_LV_fillLines_53 ?_
    refine j_iinc C 4 rfl (v := (x4 + 1)) (inc_p1 _) (by decide) (loc' := [(4, .int (x4 + 1)), (2, .int (x2 + 2)), (0, .ref (ad 5)), (1, .ref (ad 2)), (3, .int x3)]) rfl d_LV_fillLines_56 ?_
    refine j_goto C d_LV_fillLines_59 rfl ?_
    refine j_sub [2, 3, 1, 4, 0] rfl ?_
    exact hk16 (x2 + 2) x3 (x4 + 1) σ52 hf
def LV_fillLines_L16 (kb5 : Int32 → Int32 → ST → Option (ST)) : Nat → Int32 → Int32 → Int32 → ST → Option (ST)
  | 0, _, _, _, _ => none
  | N + 1, x2, x3, x4, σ => LV_fillLines_b16 kb5 (fun x2 x3 x4 σ => LV_fillLines_L16 kb5 N x2 x3 x4 σ) x2 x3 x4 σ
theorem w_LV_fillLines_L16 {X : JX} (C : JC X l D (ttf cs) eE b_LV_fillLines "TollLedger$Leaves" 5 (Cond.code y_LV_fillLines b_LV_fillLines 5 r_LV_fillLines :: BIG) 2 47 0 0) {res : ST} (Rt : JR X (wfm ad cs) 0 0 (PV res) r_LV_fillLines "fillLines") {kb5 : Int32 → Int32 → ST → Option (ST)} (hk5 : ∀ (x2 : Int32) (x3 : Int32) (σ : ST), kb5 x2 x3 σ = some res → J (wfm ad cs) X 5 0 0 σ 5 [(0, .ref (ad 5)), (1, .ref (ad 2)), (2, .int x2), (3, .int x3)] []) (N : Nat) (x2 : Int32) (x3 : Int32) (x4 : Int32) (σ : ST) (hf : LV_fillLines_L16 kb5 N x2 x3 x4 σ = some res) : J (wfm ad cs) X 5 0 0 σ 16 [(0, .ref (ad 5)), (1, .ref (ad 2)), (2, .int x2), (3, .int x3), (4, .int x4)] [] := by
  induction N generalizing x2 x3 x4 σ with
  | zero => exact nomatch hf
  | succ N ih => exact w_LV_fillLines_b16 C Rt hk5 (fun x2 x3 x4 σ h => ih x2 x3 x4 σ h) x2 x3 x4 σ hf
def LV_fillLines_b5 (kb5 : Int32 → Int32 → ST → Option (ST)) (x2 : Int32) (x3 : Int32) (σ : ST) : Option (ST) :=
  if (6 : Int32) ≤ x3 then (some σ)
  else (nmI (x3 + (1 : Int32)) fun x4_14 =>
  LV_fillLines_L16 kb5 FU x2 x3 x4_14 σ)
set_option maxRecDepth 100000 in
set_option maxHeartbeats 4000000 in
theorem w_LV_fillLines_b5 {X : JX} (C : JC X l D (ttf cs) eE b_LV_fillLines "TollLedger$Leaves" 5 (Cond.code y_LV_fillLines b_LV_fillLines 5 r_LV_fillLines :: BIG) 2 47 0 0) {res : ST} (Rt : JR X (wfm ad cs) 0 0 (PV res) r_LV_fillLines "fillLines") {kb5 : Int32 → Int32 → ST → Option (ST)} (hk5 : ∀ (x2 : Int32) (x3 : Int32) (σ : ST), kb5 x2 x3 σ = some res → J (wfm ad cs) X 5 0 0 σ 5 [(0, .ref (ad 5)), (1, .ref (ad 2)), (2, .int x2), (3, .int x3)] []) (x2 : Int32) (x3 : Int32) (σ : ST) (hf : LV_fillLines_b5 kb5 x2 x3 σ = some res) : J (wfm ad cs) X 5 0 0 σ 5 [(0, .ref (ad 5)), (1, .ref (ad 2)), (2, .int x2), (3, .int x3)] [] := by
  unfold LV_fillLines_b5 at hf
  refine j_iload_n C 3 rfl rfl d_LV_fillLines_5 ?_
  refine j_bipush C (v := 6) (by decide) d_LV_fillLines_6 ?_
  refine j_icmp_ge C d_LV_fillLines_8 rfl (fun c8 => ?_) (fun c8 => ?_)
  · have hf := o_it c8 hf
    have hf := Option.some.inj hf
    subst hf
    exact j_vret C Rt (Nat.zero_le _) (Nat.zero_le _) d_LV_fillLines_68 ⟨rfl, rfl⟩
  · have hf := o_if c8 hf
    refine j_iload_n C 3 rfl rfl d_LV_fillLines_11 ?_
    refine j_iconst C (v := 1) (by decide) d_LV_fillLines_12 ?_
    refine j_iadd C d_LV_fillLines_13 ?_
    obtain ⟨x4_14, ex4_14, hf⟩ := o_nmI hf
    refine j_topI ex4_14 ?_
    refine j_istore C (by decide) (loc' := [(4, .int x4_14), (0, .ref (ad 5)), (1, .ref (ad 2)), (2, .int x2), (3, .int x3)]) rfl d_LV_fillLines_14 ?_
    refine j_sub [1, 2, 3, 4, 0] rfl ?_
    exact w_LV_fillLines_L16 C Rt hk5 FU x2 x3 x4_14 σ hf
def LV_fillLines_L5 : Nat → Int32 → Int32 → ST → Option (ST)
  | 0, _, _, _ => none
  | N + 1, x2, x3, σ => LV_fillLines_b5 (fun x2 x3 σ => LV_fillLines_L5 N x2 x3 σ) x2 x3 σ
theorem w_LV_fillLines_L5 {X : JX} (C : JC X l D (ttf cs) eE b_LV_fillLines "TollLedger$Leaves" 5 (Cond.code y_LV_fillLines b_LV_fillLines 5 r_LV_fillLines :: BIG) 2 47 0 0) {res : ST} (Rt : JR X (wfm ad cs) 0 0 (PV res) r_LV_fillLines "fillLines")  (N : Nat) (x2 : Int32) (x3 : Int32) (σ : ST) (hf : LV_fillLines_L5 N x2 x3 σ = some res) : J (wfm ad cs) X 5 0 0 σ 5 [(0, .ref (ad 5)), (1, .ref (ad 2)), (2, .int x2), (3, .int x3)] [] := by
  induction N generalizing x2 x3 σ with
  | zero => exact nomatch hf
  | succ N ih => exact w_LV_fillLines_b5 C Rt  (fun x2 x3 σ h => ih x2 x3 σ h) x2 x3 σ hf
def LV_fillLines (σ : ST) : Option (ST) :=
  LV_fillLines_L5 FU (6 : Int32) (0 : Int32) σ
set_option maxRecDepth 100000 in
set_option maxHeartbeats 4000000 in
theorem m_LV_fillLines (l : Launch) (D : va_G) (ad : Nat → Nat) (cs : Nat → ClassId) (eE : Nat × Nat) (σ : ST) {res : ST} (hf : LV_fillLines σ = some res) : MS l y_LV_fillLines (Cond.code y_LV_fillLines b_LV_fillLines 5 r_LV_fillLines :: BIG) 2 47 0 0 (wfm ad cs) D (ttf cs) eE [.ref (ad 5), .ref (ad 2)] σ (PV res) := by
  refine MS.of (cc := b_LV_fillLines) (maxL := 5) (ret := r_LV_fillLines) (by decide) rfl (Nat.le_of_ble_eq_true rfl) (loc := [(0, .ref (ad 5)), (1, .ref (ad 2))]) rfl (fun X C Rt => ?_)
  unfold LV_fillLines at hf
  refine j_bipush C (v := 6) (by decide) d_LV_fillLines_0 ?_
  refine j_istore_n C rfl (by decide) (loc' := [(2, .int (6 : Int32)), (0, .ref (ad 5)), (1, .ref (ad 2))]) rfl d_LV_fillLines_2 ?_
  refine j_iconst C (v := 0) (by decide) d_LV_fillLines_3 ?_
  refine j_istore_n C rfl (by decide) (loc' := [(3, .int (0 : Int32)), (2, .int (6 : Int32)), (0, .ref (ad 5)), (1, .ref (ad 2))]) rfl d_LV_fillLines_4 ?_
  refine j_sub [2, 3, 1, 0] rfl ?_
  exact w_LV_fillLines_L5 C Rt  FU (6 : Int32) (0 : Int32) σ hf
theorem d_OF_leaf_0 : decode b_OF_leaf 0 = .ok (.aload_n 0, 1) := by decide +kernel
theorem d_OF_leaf_1 : decode b_OF_leaf 1 = .ok (.getfield 16, 3) := by decide +kernel
theorem d_OF_leaf_4 : decode b_OF_leaf 4 = .ok (.bipush 64, 2) := by decide +kernel
theorem d_OF_leaf_6 : decode b_OF_leaf 6 = .ok (.aload_n 0, 1) := by decide +kernel
theorem d_OF_leaf_7 : decode b_OF_leaf 7 = .ok (.getfield 19, 3) := by decide +kernel
theorem d_OF_leaf_10 : decode b_OF_leaf 10 = .ok (.imul, 1) := by decide +kernel
theorem d_OF_leaf_11 : decode b_OF_leaf 11 = .ok (.iadd, 1) := by decide +kernel
theorem d_OF_leaf_12 : decode b_OF_leaf 12 = .ok (.sipush 512, 3) := by decide +kernel
theorem d_OF_leaf_15 : decode b_OF_leaf 15 = .ok (.aload_n 0, 1) := by decide +kernel
theorem d_OF_leaf_16 : decode b_OF_leaf 16 = .ok (.getfield 22, 3) := by decide +kernel
theorem d_OF_leaf_19 : decode b_OF_leaf 19 = .ok (.bipush 13, 2) := by decide +kernel
theorem d_OF_leaf_21 : decode b_OF_leaf 21 = .ok (.aload_n 0, 1) := by decide +kernel
theorem d_OF_leaf_22 : decode b_OF_leaf 22 = .ok (.getfield 25, 3) := by decide +kernel
theorem d_OF_leaf_25 : decode b_OF_leaf 25 = .ok (.imul, 1) := by decide +kernel
theorem d_OF_leaf_26 : decode b_OF_leaf 26 = .ok (.iadd, 1) := by decide +kernel
theorem d_OF_leaf_27 : decode b_OF_leaf 27 = .ok (.imul, 1) := by decide +kernel
theorem d_OF_leaf_28 : decode b_OF_leaf 28 = .ok (.iadd, 1) := by decide +kernel
theorem d_OF_leaf_29 : decode b_OF_leaf 29 = .ok (.ldc 28, 2) := by decide +kernel
theorem d_OF_leaf_31 : decode b_OF_leaf 31 = .ok (.aload_n 0, 1) := by decide +kernel
theorem d_OF_leaf_32 : decode b_OF_leaf 32 = .ok (.getfield 7, 3) := by decide +kernel
theorem d_OF_leaf_35 : decode b_OF_leaf 35 = .ok (.imul, 1) := by decide +kernel
theorem d_OF_leaf_36 : decode b_OF_leaf 36 = .ok (.iadd, 1) := by decide +kernel
theorem d_OF_leaf_37 : decode b_OF_leaf 37 = .ok (.bipush 7, 2) := by decide +kernel
theorem d_OF_leaf_39 : decode b_OF_leaf 39 = .ok (.aload_n 0, 1) := by decide +kernel
theorem d_OF_leaf_40 : decode b_OF_leaf 40 = .ok (.getfield 13, 3) := by decide +kernel
theorem d_OF_leaf_43 : decode b_OF_leaf 43 = .ok (.imul, 1) := by decide +kernel
theorem d_OF_leaf_44 : decode b_OF_leaf 44 = .ok (.iadd, 1) := by decide +kernel
theorem d_OF_leaf_45 : decode b_OF_leaf 45 = .ok (.ireturn, 1) := by decide +kernel
def OF_leaf (x0 : Nat) (σ : ST) : Option (Int32) :=
  if ¬ (x0 ∈ pL σ ∧ pK σ x0 = 2) then none else
  some (((((pP σ x0 0) + ((64 : Int32) * (pP σ x0 1))) + ((512 : Int32) * ((pP σ x0 2) + ((13 : Int32) * (pP σ x0 4))))) + ((100003 : Int32) * (pP σ x0 3))) + ((7 : Int32) * (pP σ x0 5)))
set_option maxRecDepth 100000 in
set_option maxHeartbeats 4000000 in
theorem m_OF_leaf (l : Launch) (D : va_G) (ad : Nat → Nat) (cs : Nat → ClassId) (eE : Nat × Nat) (x0 : Nat) (σ : ST) {res : Int32} (hf : OF_leaf x0 σ = some res) : MS l y_OF_leaf (Cond.code y_OF_leaf b_OF_leaf 1 r_OF_leaf :: BIG) 0 0 0 0 (wfm ad cs) D (ttf cs) eE [.ref x0] σ (PI res σ) := by
  refine MS.of (cc := b_OF_leaf) (maxL := 1) (ret := r_OF_leaf) (by decide) rfl (Nat.le_of_ble_eq_true rfl) (loc := [(0, .ref x0)]) rfl (fun X C Rt => ?_)
  unfold OF_leaf at hf
  refine j_aload_n C 0 rfl rfl d_OF_leaf_0 ?_
  obtain ⟨g1, hf⟩ := o_gn hf
  refine gp_Offer_id C (Decidable.not_not.mp g1) (List.mem_cons_of_mem _ wd_3_11) d_OF_leaf_1 ?_
  refine j_bipush C (v := 64) (by decide) d_OF_leaf_4 ?_
  refine j_aload_n C 0 rfl rfl d_OF_leaf_6 ?_
  refine gp_Offer_owner C (Decidable.not_not.mp g1) (List.mem_cons_of_mem _ wd_3_17) d_OF_leaf_7 ?_
  refine j_imul C d_OF_leaf_10 ?_
  refine j_iadd C d_OF_leaf_11 ?_
  refine j_sipush C (v := 512) (by decide) d_OF_leaf_12 ?_
  refine j_aload_n C 0 rfl rfl d_OF_leaf_15 ?_
  refine gp_Offer_wants C (Decidable.not_not.mp g1) (List.mem_cons_of_mem _ wd_3_20) d_OF_leaf_16 ?_
  refine j_bipush C (v := 13) (by decide) d_OF_leaf_19 ?_
  refine j_aload_n C 0 rfl rfl d_OF_leaf_21 ?_
  refine gp_Offer_gives C (Decidable.not_not.mp g1) (List.mem_cons_of_mem _ wd_3_27) d_OF_leaf_22 ?_
  refine j_imul C d_OF_leaf_25 ?_
  refine j_iadd C d_OF_leaf_26 ?_
  refine j_imul C d_OF_leaf_27 ?_
  refine j_iadd C d_OF_leaf_28 ?_
  refine j_ldc C (v := 100003) (List.mem_cons_of_mem _ wd_3_235) d_OF_leaf_29 ?_
  refine j_aload_n C 0 rfl rfl d_OF_leaf_31 ?_
  refine gp_Offer_w C (Decidable.not_not.mp g1) (List.mem_cons_of_mem _ wd_3_22) d_OF_leaf_32 ?_
  refine j_imul C d_OF_leaf_35 ?_
  refine j_iadd C d_OF_leaf_36 ?_
  refine j_bipush C (v := 7) (by decide) d_OF_leaf_37 ?_
  refine j_aload_n C 0 rfl rfl d_OF_leaf_39 ?_
  refine gp_Offer_g C (Decidable.not_not.mp g1) (List.mem_cons_of_mem _ wd_3_29) d_OF_leaf_40 ?_
  refine j_imul C d_OF_leaf_43 ?_
  refine j_iadd C d_OF_leaf_44 ?_
  have hf := Option.some.inj hf
  subst hf
  exact j_iret C Rt (Nat.zero_le _) (Nat.zero_le _) d_OF_leaf_45 ⟨rfl, rfl⟩
theorem d_LV_fill_0 : decode b_LV_fill 0 = .ok (.aload_n 0, 1) := by decide +kernel
theorem d_LV_fill_1 : decode b_LV_fill 1 = .ok (.getfield 11, 3) := by decide +kernel
theorem d_LV_fill_4 : decode b_LV_fill 4 = .ok (.iconst 0, 1) := by decide +kernel
theorem d_LV_fill_5 : decode b_LV_fill 5 = .ok (.invokestatic 15, 3) := by decide +kernel
theorem d_LV_fill_8 : decode b_LV_fill 8 = .ok (.iconst 0, 1) := by decide +kernel
theorem d_LV_fill_9 : decode b_LV_fill 9 = .ok (.istore_n 2, 1) := by decide +kernel
theorem d_LV_fill_10 : decode b_LV_fill 10 = .ok (.iload_n 2, 1) := by decide +kernel
theorem d_LV_fill_11 : decode b_LV_fill 11 = .ok (.bipush 6, 2) := by decide +kernel
theorem d_LV_fill_13 : decode b_LV_fill 13 = .ok (.if_icmp .ge 24, 3) := by decide +kernel
theorem d_LV_fill_16 : decode b_LV_fill 16 = .ok (.aload_n 0, 1) := by decide +kernel
theorem d_LV_fill_17 : decode b_LV_fill 17 = .ok (.getfield 11, 3) := by decide +kernel
theorem d_LV_fill_20 : decode b_LV_fill 20 = .ok (.iload_n 2, 1) := by decide +kernel
theorem d_LV_fill_21 : decode b_LV_fill 21 = .ok (.aload_n 1, 1) := by decide +kernel
theorem d_LV_fill_22 : decode b_LV_fill 22 = .ok (.getfield 21, 3) := by decide +kernel
theorem d_LV_fill_25 : decode b_LV_fill 25 = .ok (.iload_n 2, 1) := by decide +kernel
theorem d_LV_fill_26 : decode b_LV_fill 26 = .ok (.aaload, 1) := by decide +kernel
theorem d_LV_fill_27 : decode b_LV_fill 27 = .ok (.invokevirtual 27, 3) := by decide +kernel
theorem d_LV_fill_30 : decode b_LV_fill 30 = .ok (.iastore, 1) := by decide +kernel
theorem d_LV_fill_31 : decode b_LV_fill 31 = .ok (.iinc 2 1, 3) := by decide +kernel
theorem d_LV_fill_34 : decode b_LV_fill 34 = .ok (.goto (-24), 3) := by decide +kernel
theorem d_LV_fill_37 : decode b_LV_fill 37 = .ok (.aload_n 0, 1) := by decide +kernel
theorem d_LV_fill_38 : decode b_LV_fill 38 = .ok (.aload_n 1, 1) := by decide +kernel
theorem d_LV_fill_39 : decode b_LV_fill 39 = .ok (.getfield 33, 3) := by decide +kernel
theorem d_LV_fill_42 : decode b_LV_fill 42 = .ok (.invokevirtual 37, 3) := by decide +kernel
theorem d_LV_fill_45 : decode b_LV_fill 45 = .ok (.iconst 0, 1) := by decide +kernel
theorem d_LV_fill_46 : decode b_LV_fill 46 = .ok (.istore_n 2, 1) := by decide +kernel
theorem d_LV_fill_47 : decode b_LV_fill 47 = .ok (.iload_n 2, 1) := by decide +kernel
theorem d_LV_fill_48 : decode b_LV_fill 48 = .ok (.aload_n 1, 1) := by decide +kernel
theorem d_LV_fill_49 : decode b_LV_fill 49 = .ok (.getfield 41, 3) := by decide +kernel
theorem d_LV_fill_52 : decode b_LV_fill 52 = .ok (.invokevirtual 45, 3) := by decide +kernel
theorem d_LV_fill_55 : decode b_LV_fill 55 = .ok (.if_icmp .ge 38, 3) := by decide +kernel
theorem d_LV_fill_58 : decode b_LV_fill 58 = .ok (.iload_n 2, 1) := by decide +kernel
theorem d_LV_fill_59 : decode b_LV_fill 59 = .ok (.bipush 12, 2) := by decide +kernel
theorem d_LV_fill_61 : decode b_LV_fill 61 = .ok (.if_icmp .ge 32, 3) := by decide +kernel
theorem d_LV_fill_64 : decode b_LV_fill 64 = .ok (.aload_n 0, 1) := by decide +kernel
theorem d_LV_fill_65 : decode b_LV_fill 65 = .ok (.getfield 11, 3) := by decide +kernel
theorem d_LV_fill_68 : decode b_LV_fill 68 = .ok (.bipush 36, 2) := by decide +kernel
theorem d_LV_fill_70 : decode b_LV_fill 70 = .ok (.iload_n 2, 1) := by decide +kernel
theorem d_LV_fill_71 : decode b_LV_fill 71 = .ok (.iadd, 1) := by decide +kernel
theorem d_LV_fill_72 : decode b_LV_fill 72 = .ok (.aload_n 1, 1) := by decide +kernel
theorem d_LV_fill_73 : decode b_LV_fill 73 = .ok (.getfield 41, 3) := by decide +kernel
theorem d_LV_fill_76 : decode b_LV_fill 76 = .ok (.iload_n 2, 1) := by decide +kernel
theorem d_LV_fill_77 : decode b_LV_fill 77 = .ok (.invokevirtual 50, 3) := by decide +kernel
theorem d_LV_fill_80 : decode b_LV_fill 80 = .ok (.checkcast 54, 3) := by decide +kernel
theorem d_LV_fill_83 : decode b_LV_fill 83 = .ok (.invokevirtual 56, 3) := by decide +kernel
theorem d_LV_fill_86 : decode b_LV_fill 86 = .ok (.iastore, 1) := by decide +kernel
theorem d_LV_fill_87 : decode b_LV_fill 87 = .ok (.iinc 2 1, 3) := by decide +kernel
theorem d_LV_fill_90 : decode b_LV_fill 90 = .ok (.goto (-43), 3) := by decide +kernel
theorem d_LV_fill_93 : decode b_LV_fill 93 = .ok (.iconst 0, 1) := by decide +kernel
theorem d_LV_fill_94 : decode b_LV_fill 94 = .ok (.istore_n 2, 1) := by decide +kernel
theorem d_LV_fill_95 : decode b_LV_fill 95 = .ok (.iload_n 2, 1) := by decide +kernel
theorem d_LV_fill_96 : decode b_LV_fill 96 = .ok (.aload_n 1, 1) := by decide +kernel
theorem d_LV_fill_97 : decode b_LV_fill 97 = .ok (.getfield 57, 3) := by decide +kernel
theorem d_LV_fill_100 : decode b_LV_fill 100 = .ok (.invokevirtual 45, 3) := by decide +kernel
theorem d_LV_fill_103 : decode b_LV_fill 103 = .ok (.if_icmp .ge 38, 3) := by decide +kernel
theorem d_LV_fill_106 : decode b_LV_fill 106 = .ok (.iload_n 2, 1) := by decide +kernel
theorem d_LV_fill_107 : decode b_LV_fill 107 = .ok (.bipush 6, 2) := by decide +kernel
theorem d_LV_fill_109 : decode b_LV_fill 109 = .ok (.if_icmp .ge 32, 3) := by decide +kernel
theorem d_LV_fill_112 : decode b_LV_fill 112 = .ok (.aload_n 0, 1) := by decide +kernel
theorem d_LV_fill_113 : decode b_LV_fill 113 = .ok (.getfield 11, 3) := by decide +kernel
theorem d_LV_fill_116 : decode b_LV_fill 116 = .ok (.bipush 48, 2) := by decide +kernel
theorem d_LV_fill_118 : decode b_LV_fill 118 = .ok (.iload_n 2, 1) := by decide +kernel
theorem d_LV_fill_119 : decode b_LV_fill 119 = .ok (.iadd, 1) := by decide +kernel
theorem d_LV_fill_120 : decode b_LV_fill 120 = .ok (.aload_n 1, 1) := by decide +kernel
theorem d_LV_fill_121 : decode b_LV_fill 121 = .ok (.getfield 57, 3) := by decide +kernel
theorem d_LV_fill_124 : decode b_LV_fill 124 = .ok (.iload_n 2, 1) := by decide +kernel
theorem d_LV_fill_125 : decode b_LV_fill 125 = .ok (.invokevirtual 50, 3) := by decide +kernel
theorem d_LV_fill_128 : decode b_LV_fill 128 = .ok (.checkcast 60, 3) := by decide +kernel
theorem d_LV_fill_131 : decode b_LV_fill 131 = .ok (.invokevirtual 62, 3) := by decide +kernel
theorem d_LV_fill_134 : decode b_LV_fill 134 = .ok (.iastore, 1) := by decide +kernel
theorem d_LV_fill_135 : decode b_LV_fill 135 = .ok (.iinc 2 1, 3) := by decide +kernel
theorem d_LV_fill_138 : decode b_LV_fill 138 = .ok (.goto (-43), 3) := by decide +kernel
theorem d_LV_fill_141 : decode b_LV_fill 141 = .ok (.return_, 1) := by decide +kernel
def LV_fill_b95 (kb95 : Int32 → ST → Option (ST)) (x2 : Int32) (σ : ST) : Option (ST) :=
  bd1 (AL_size_DL σ) fun r100 =>
  if r100 ≤ x2 then (some σ)
  else (if (6 : Int32) ≤ x2 then (some σ)
  else (bd1 (AL_get_DL x2 σ) fun r125 =>
  if ¬ (r125 ∈ pL σ ∧ pK σ r125 = 3) then none else
  bd1 (DP_leaf r125 σ) fun r131 =>
  if ((48 : Int32) + x2) < 0 ∨ 64 ≤ ((48 : Int32) + x2).toNatClampNeg then none else
  nmS (sA σ 7 ((48 : Int32) + x2).toNatClampNeg r131) fun σ134 =>
  kb95 (x2 + 1) σ134))
set_option maxRecDepth 100000 in
set_option maxHeartbeats 4000000 in
theorem w_LV_fill_b95 {X : JX} (C : JC X l D (ttf cs) eE b_LV_fill "TollLedger$Leaves" 3 (Cond.code y_LV_fill b_LV_fill 3 r_LV_fill :: BIG) 3 71 0 0) {res : ST} (Rt : JR X (wfm ad cs) 0 0 (PV res) r_LV_fill "fill") {kb95 : Int32 → ST → Option (ST)} (hk95 : ∀ (x2 : Int32) (σ : ST), kb95 x2 σ = some res → J (wfm ad cs) X 3 0 0 σ 95 [(0, .ref (ad 5)), (1, .ref (ad 1)), (2, .int x2)] []) (x2 : Int32) (σ : ST) (hf : LV_fill_b95 kb95 x2 σ = some res) : J (wfm ad cs) X 3 0 0 σ 95 [(0, .ref (ad 5)), (1, .ref (ad 1)), (2, .int x2)] [] := by
  unfold LV_fill_b95 at hf
  refine j_iload_n C 2 rfl rfl d_LV_fill_95 ?_
  refine j_aload_n C 1 rfl rfl d_LV_fill_96 ?_
  refine g_ST_deposits C (List.mem_cons_of_mem _ wd_1_121) d_LV_fill_97 ?_
  obtain ⟨r100, h100, hf⟩ := o_b1 hf
  refine j_callV (ci := 9) (Cn := "java/util/ArrayList") (T := T_AL) (N := 3) C [] [.int x2] (m_AL_size_DL _ _ _ _ _ σ h100) (gdV wd_3_228 wd_2_55 wd_2_56 wd_1_6 wc_AL_size) hy_AL_size rfl ⟨7, rfl⟩ rfl rfl (by decide) (by decide) (by decide) (by decide) (Nat.le_of_ble_eq_true rfl) d_LV_fill_100 (j_kI (r := r100) (σ1 := σ) ?_)
  refine j_icmp_ge C d_LV_fill_103 rfl (fun c103 => ?_) (fun c103 => ?_)
  · have hf := o_it c103 hf
    have hf := Option.some.inj hf
    subst hf
    exact j_vret C Rt (Nat.zero_le _) (Nat.zero_le _) d_LV_fill_141 ⟨rfl, rfl⟩
  · have hf := o_if c103 hf
    refine j_iload_n C 2 rfl rfl d_LV_fill_106 ?_
    refine j_bipush C (v := 6) (by decide) d_LV_fill_107 ?_
    refine j_icmp_ge C d_LV_fill_109 rfl (fun c109 => ?_) (fun c109 => ?_)
    · have hf := o_it c109 hf
      have hf := Option.some.inj hf
      subst hf
      exact j_vret C Rt (Nat.zero_le _) (Nat.zero_le _) d_LV_fill_141 ⟨rfl, rfl⟩
    · have hf := o_if c109 hf
      refine j_aload_n C 0 rfl rfl d_LV_fill_112 ?_
      refine g_LV_row C (List.mem_cons_of_mem _ wd_1_213) d_LV_fill_113 ?_
      refine j_bipush C (v := 48) (by decide) d_LV_fill_116 ?_
      refine j_iload_n C 2 rfl rfl d_LV_fill_118 ?_
      refine j_iadd C d_LV_fill_119 ?_
      refine j_aload_n C 1 rfl rfl d_LV_fill_120 ?_
      refine g_ST_deposits C (List.mem_cons_of_mem _ wd_1_121) d_LV_fill_121 ?_
      refine j_iload_n C 2 rfl rfl d_LV_fill_124 ?_
      obtain ⟨r125, h125, hf⟩ := o_b1 hf
      refine j_callV (ci := 9) (Cn := "java/util/ArrayList") (T := T_AL) (N := 3) C [.int x2] [.int ((48 : Int32) + x2), .ref (ad 17)] (m_AL_get_DL _ _ _ _ _ x2 σ h125) (gdV wd_3_229 wd_2_59 wd_2_60 wd_1_6 wc_AL_get) hy_AL_get rfl ⟨7, rfl⟩ rfl rfl (by decide) (by decide) (by decide) (by decide) (Nat.le_of_ble_eq_true rfl) d_LV_fill_125 (j_kA (r := r125) (σ1 := σ) ?_)
      obtain ⟨g128, hf⟩ := o_gn hf
      refine cc_Deposit C (Decidable.not_not.mp g128) (List.mem_cons_of_mem _ wd_3_236) d_LV_fill_128 ?_
      obtain ⟨r131, h131, hf⟩ := o_b1 hf
      refine j_callV (ci := 8) (Cn := "TollLedger$Deposit") (T := T_DP) (N := 6) C [] [.int ((48 : Int32) + x2), .ref (ad 17)] (m_DP_leaf _ _ _ _ _ r125 σ h131) (gdV wd_3_237 wd_3_238 wd_3_239 wd_1_19 wc_DP_leaf) hy_DP_leaf rfl (rdp3 (Decidable.not_not.mp g128)) rfl rfl (by decide) (by decide) (by decide) (by decide) (Nat.le_of_ble_eq_true rfl) d_LV_fill_131 (j_kI (r := r131) (σ1 := σ) ?_)
      obtain ⟨g134, hf⟩ := o_gn hf
      obtain ⟨σ134, eσ134, hf⟩ := o_nmS hf
      refine sa_lrow C g134 eσ134 d_LV_fill_134 ?_
      refine j_iinc C 2 rfl (v := (x2 + 1)) (inc_p1 _) (by decide) (loc' := [(2, .int (x2 + 1)), (0, .ref (ad 5)), (1, .ref (ad 1))]) rfl d_LV_fill_135 ?_
      refine j_goto C d_LV_fill_138 rfl ?_
      refine j_sub [1, 2, 0] rfl ?_
      exact hk95 (x2 + 1) σ134 hf
def LV_fill_L95 : Nat → Int32 → ST → Option (ST)
  | 0, _, _ => none
  | N + 1, x2, σ => LV_fill_b95 (fun x2 σ => LV_fill_L95 N x2 σ) x2 σ
theorem w_LV_fill_L95 {X : JX} (C : JC X l D (ttf cs) eE b_LV_fill "TollLedger$Leaves" 3 (Cond.code y_LV_fill b_LV_fill 3 r_LV_fill :: BIG) 3 71 0 0) {res : ST} (Rt : JR X (wfm ad cs) 0 0 (PV res) r_LV_fill "fill")  (N : Nat) (x2 : Int32) (σ : ST) (hf : LV_fill_L95 N x2 σ = some res) : J (wfm ad cs) X 3 0 0 σ 95 [(0, .ref (ad 5)), (1, .ref (ad 1)), (2, .int x2)] [] := by
  induction N generalizing x2 σ with
  | zero => exact nomatch hf
  | succ N ih => exact w_LV_fill_b95 C Rt  (fun x2 σ h => ih x2 σ h) x2 σ hf
def LV_fill_b47 (kb47 : Int32 → ST → Option (ST)) (x2 : Int32) (σ : ST) : Option (ST) :=
  bd1 (AL_size_OL σ) fun r52 =>
  if r52 ≤ x2 then (LV_fill_L95 FU (0 : Int32) σ)
  else (if (12 : Int32) ≤ x2 then (LV_fill_L95 FU (0 : Int32) σ)
  else (bd1 (AL_get_OL x2 σ) fun r77 =>
  if ¬ (r77 ∈ pL σ ∧ pK σ r77 = 2) then none else
  bd1 (OF_leaf r77 σ) fun r83 =>
  if ((36 : Int32) + x2) < 0 ∨ 64 ≤ ((36 : Int32) + x2).toNatClampNeg then none else
  nmS (sA σ 7 ((36 : Int32) + x2).toNatClampNeg r83) fun σ86 =>
  kb47 (x2 + 1) σ86))
set_option maxRecDepth 100000 in
set_option maxHeartbeats 4000000 in
theorem w_LV_fill_b47 {X : JX} (C : JC X l D (ttf cs) eE b_LV_fill "TollLedger$Leaves" 3 (Cond.code y_LV_fill b_LV_fill 3 r_LV_fill :: BIG) 3 71 0 0) {res : ST} (Rt : JR X (wfm ad cs) 0 0 (PV res) r_LV_fill "fill") {kb47 : Int32 → ST → Option (ST)} (hk47 : ∀ (x2 : Int32) (σ : ST), kb47 x2 σ = some res → J (wfm ad cs) X 3 0 0 σ 47 [(0, .ref (ad 5)), (1, .ref (ad 1)), (2, .int x2)] []) (x2 : Int32) (σ : ST) (hf : LV_fill_b47 kb47 x2 σ = some res) : J (wfm ad cs) X 3 0 0 σ 47 [(0, .ref (ad 5)), (1, .ref (ad 1)), (2, .int x2)] [] := by
  unfold LV_fill_b47 at hf
  refine j_iload_n C 2 rfl rfl d_LV_fill_47 ?_
  refine j_aload_n C 1 rfl rfl d_LV_fill_48 ?_
  refine g_ST_offers C (List.mem_cons_of_mem _ wd_1_118) d_LV_fill_49 ?_
  obtain ⟨r52, h52, hf⟩ := o_b1 hf
  refine j_callV (ci := 9) (Cn := "java/util/ArrayList") (T := T_AL) (N := 3) C [] [.int x2] (m_AL_size_OL _ _ _ _ _ σ h52) (gdV wd_3_228 wd_2_55 wd_2_56 wd_1_6 wc_AL_size) hy_AL_size rfl ⟨6, rfl⟩ rfl rfl (by decide) (by decide) (by decide) (by decide) (Nat.le_of_ble_eq_true rfl) d_LV_fill_52 (j_kI (r := r52) (σ1 := σ) ?_)
  refine j_icmp_ge C d_LV_fill_55 rfl (fun c55 => ?_) (fun c55 => ?_)
  · have hf := o_it c55 hf
    refine j_iconst C (v := 0) (by decide) d_LV_fill_93 ?_
    refine j_istore_n C rfl (by decide) (loc' := [(2, .int (0 : Int32)), (0, .ref (ad 5)), (1, .ref (ad 1))]) rfl d_LV_fill_94 ?_
    refine j_sub [1, 2, 0] rfl ?_
    exact w_LV_fill_L95 C Rt  FU (0 : Int32) σ hf
  · have hf := o_if c55 hf
    refine j_iload_n C 2 rfl rfl d_LV_fill_58 ?_
    refine j_bipush C (v := 12) (by decide) d_LV_fill_59 ?_
    refine j_icmp_ge C d_LV_fill_61 rfl (fun c61 => ?_) (fun c61 => ?_)
    · have hf := o_it c61 hf
      refine j_iconst C (v := 0) (by decide) d_LV_fill_93 ?_
      refine j_istore_n C rfl (by decide) (loc' := [(2, .int (0 : Int32)), (0, .ref (ad 5)), (1, .ref (ad 1))]) rfl d_LV_fill_94 ?_
      refine j_sub [1, 2, 0] rfl ?_
      exact w_LV_fill_L95 C Rt  FU (0 : Int32) σ hf
    · have hf := o_if c61 hf
      refine j_aload_n C 0 rfl rfl d_LV_fill_64 ?_
      refine g_LV_row C (List.mem_cons_of_mem _ wd_1_213) d_LV_fill_65 ?_
      refine j_bipush C (v := 36) (by decide) d_LV_fill_68 ?_
      refine j_iload_n C 2 rfl rfl d_LV_fill_70 ?_
      refine j_iadd C d_LV_fill_71 ?_
      refine j_aload_n C 1 rfl rfl d_LV_fill_72 ?_
      refine g_ST_offers C (List.mem_cons_of_mem _ wd_1_118) d_LV_fill_73 ?_
      refine j_iload_n C 2 rfl rfl d_LV_fill_76 ?_
      obtain ⟨r77, h77, hf⟩ := o_b1 hf
      refine j_callV (ci := 9) (Cn := "java/util/ArrayList") (T := T_AL) (N := 3) C [.int x2] [.int ((36 : Int32) + x2), .ref (ad 17)] (m_AL_get_OL _ _ _ _ _ x2 σ h77) (gdV wd_3_229 wd_2_59 wd_2_60 wd_1_6 wc_AL_get) hy_AL_get rfl ⟨6, rfl⟩ rfl rfl (by decide) (by decide) (by decide) (by decide) (Nat.le_of_ble_eq_true rfl) d_LV_fill_77 (j_kA (r := r77) (σ1 := σ) ?_)
      obtain ⟨g80, hf⟩ := o_gn hf
      refine cc_Offer C (Decidable.not_not.mp g80) (List.mem_cons_of_mem _ wd_3_230) d_LV_fill_80 ?_
      obtain ⟨r83, h83, hf⟩ := o_b1 hf
      refine j_callV (ci := 7) (Cn := "TollLedger$Offer") (T := T_OF) (N := 6) C [] [.int ((36 : Int32) + x2), .ref (ad 17)] (m_OF_leaf _ _ _ _ _ r77 σ h83) (gdV wd_3_231 wd_3_232 wd_3_233 wd_1_16 wc_OF_leaf) hy_OF_leaf rfl (rdp2 (Decidable.not_not.mp g80)) rfl rfl (by decide) (by decide) (by decide) (by decide) (Nat.le_of_ble_eq_true rfl) d_LV_fill_83 (j_kI (r := r83) (σ1 := σ) ?_)
      obtain ⟨g86, hf⟩ := o_gn hf
      obtain ⟨σ86, eσ86, hf⟩ := o_nmS hf
      refine sa_lrow C g86 eσ86 d_LV_fill_86 ?_
      refine j_iinc C 2 rfl (v := (x2 + 1)) (inc_p1 _) (by decide) (loc' := [(2, .int (x2 + 1)), (0, .ref (ad 5)), (1, .ref (ad 1))]) rfl d_LV_fill_87 ?_
      refine j_goto C d_LV_fill_90 rfl ?_
      refine j_sub [1, 2, 0] rfl ?_
      exact hk47 (x2 + 1) σ86 hf
def LV_fill_L47 : Nat → Int32 → ST → Option (ST)
  | 0, _, _ => none
  | N + 1, x2, σ => LV_fill_b47 (fun x2 σ => LV_fill_L47 N x2 σ) x2 σ
theorem w_LV_fill_L47 {X : JX} (C : JC X l D (ttf cs) eE b_LV_fill "TollLedger$Leaves" 3 (Cond.code y_LV_fill b_LV_fill 3 r_LV_fill :: BIG) 3 71 0 0) {res : ST} (Rt : JR X (wfm ad cs) 0 0 (PV res) r_LV_fill "fill")  (N : Nat) (x2 : Int32) (σ : ST) (hf : LV_fill_L47 N x2 σ = some res) : J (wfm ad cs) X 3 0 0 σ 47 [(0, .ref (ad 5)), (1, .ref (ad 1)), (2, .int x2)] [] := by
  induction N generalizing x2 σ with
  | zero => exact nomatch hf
  | succ N ih => exact w_LV_fill_b47 C Rt  (fun x2 σ h => ih x2 σ h) x2 σ hf
def LV_fill_b10 (kb10 : Int32 → ST → Option (ST)) (x2 : Int32) (σ : ST) : Option (ST) :=
  if (6 : Int32) ≤ x2 then (bd1 (LV_fillLines σ) fun σ42 =>
  LV_fill_L47 FU (0 : Int32) σ42)
  else (if x2 < 0 ∨ 6 ≤ x2.toNatClampNeg then none else
  bd1 (gR σ 0 x2.toNatClampNeg) fun q26 =>
  if ¬ (q26 ∈ pL σ ∧ pK σ q26 = 1) then none else
  bd1 (AC_leaf q26 σ) fun r27 =>
  if x2 < 0 ∨ 64 ≤ x2.toNatClampNeg then none else
  nmS (sA σ 7 x2.toNatClampNeg r27) fun σ30 =>
  kb10 (x2 + 1) σ30)
set_option maxRecDepth 100000 in
set_option maxHeartbeats 4000000 in
theorem w_LV_fill_b10 {X : JX} (C : JC X l D (ttf cs) eE b_LV_fill "TollLedger$Leaves" 3 (Cond.code y_LV_fill b_LV_fill 3 r_LV_fill :: BIG) 3 71 0 0) {res : ST} (Rt : JR X (wfm ad cs) 0 0 (PV res) r_LV_fill "fill") {kb10 : Int32 → ST → Option (ST)} (hk10 : ∀ (x2 : Int32) (σ : ST), kb10 x2 σ = some res → J (wfm ad cs) X 3 0 0 σ 10 [(0, .ref (ad 5)), (1, .ref (ad 1)), (2, .int x2)] []) (x2 : Int32) (σ : ST) (hf : LV_fill_b10 kb10 x2 σ = some res) : J (wfm ad cs) X 3 0 0 σ 10 [(0, .ref (ad 5)), (1, .ref (ad 1)), (2, .int x2)] [] := by
  unfold LV_fill_b10 at hf
  refine j_iload_n C 2 rfl rfl d_LV_fill_10 ?_
  refine j_bipush C (v := 6) (by decide) d_LV_fill_11 ?_
  refine j_icmp_ge C d_LV_fill_13 rfl (fun c13 => ?_) (fun c13 => ?_)
  · have hf := o_it c13 hf
    refine j_aload_n C 0 rfl rfl d_LV_fill_37 ?_
    refine j_aload_n C 1 rfl rfl d_LV_fill_38 ?_
    refine g_ST_lines C (List.mem_cons_of_mem _ wd_1_114) d_LV_fill_39 ?_
    obtain ⟨σ42, h42, hf⟩ := o_b1 hf
    refine j_callV (ci := 5) (Cn := "TollLedger$Leaves") (T := T_LV) (N := 1) C [.ref (ad 2)] [] (m_LV_fillLines _ _ _ _ _ σ h42) (gdV wd_3_218 wd_3_220 wp_15 wd_1_10 wc_LV_fillLines) hy_LV_fillLines rfl ⟨5, rfl⟩ rfl rfl (by decide) (by decide) (by decide) (by decide) (Nat.le_of_ble_eq_true rfl) d_LV_fill_42 (j_kV (σ1 := σ42) ?_)
    refine j_iconst C (v := 0) (by decide) d_LV_fill_45 ?_
    refine j_istore_n C rfl (by decide) (loc' := [(2, .int (0 : Int32)), (0, .ref (ad 5)), (1, .ref (ad 1))]) rfl d_LV_fill_46 ?_
    refine j_sub [1, 2, 0] rfl ?_
    exact w_LV_fill_L47 C Rt  FU (0 : Int32) σ42 hf
  · have hf := o_if c13 hf
    refine j_aload_n C 0 rfl rfl d_LV_fill_16 ?_
    refine g_LV_row C (List.mem_cons_of_mem _ wd_1_213) d_LV_fill_17 ?_
    refine j_iload_n C 2 rfl rfl d_LV_fill_20 ?_
    refine j_aload_n C 1 rfl rfl d_LV_fill_21 ?_
    refine g_ST_accounts C (List.mem_cons_of_mem _ wd_1_111) d_LV_fill_22 ?_
    refine j_iload_n C 2 rfl rfl d_LV_fill_25 ?_
    obtain ⟨g26, hf⟩ := o_gn hf
    obtain ⟨q26, hq26, hf⟩ := o_b1 hf
    refine la_acc C g26 hq26 d_LV_fill_26 ?_
    obtain ⟨g27, hf⟩ := o_gn hf
    obtain ⟨r27, h27, hf⟩ := o_b1 hf
    refine j_callV (ci := 6) (Cn := "TollLedger$Account") (T := T_AC) (N := 4) C [] [.int x2, .ref (ad 17)] (m_AC_leaf _ _ _ _ _ q26 σ h27) (gdV wd_3_213 wd_3_214 wd_3_215 wd_1_7 wc_AC_leaf) hy_AC_leaf rfl (rdp1 (Decidable.not_not.mp g27)) rfl rfl (by decide) (by decide) (by decide) (by decide) (Nat.le_of_ble_eq_true rfl) d_LV_fill_27 (j_kI (r := r27) (σ1 := σ) ?_)
    obtain ⟨g30, hf⟩ := o_gn hf
    obtain ⟨σ30, eσ30, hf⟩ := o_nmS hf
    refine sa_lrow C g30 eσ30 d_LV_fill_30 ?_
    refine j_iinc C 2 rfl (v := (x2 + 1)) (inc_p1 _) (by decide) (loc' := [(2, .int (x2 + 1)), (0, .ref (ad 5)), (1, .ref (ad 1))]) rfl d_LV_fill_31 ?_
    refine j_goto C d_LV_fill_34 rfl ?_
    refine j_sub [1, 2, 0] rfl ?_
    exact hk10 (x2 + 1) σ30 hf
def LV_fill_L10 : Nat → Int32 → ST → Option (ST)
  | 0, _, _ => none
  | N + 1, x2, σ => LV_fill_b10 (fun x2 σ => LV_fill_L10 N x2 σ) x2 σ
theorem w_LV_fill_L10 {X : JX} (C : JC X l D (ttf cs) eE b_LV_fill "TollLedger$Leaves" 3 (Cond.code y_LV_fill b_LV_fill 3 r_LV_fill :: BIG) 3 71 0 0) {res : ST} (Rt : JR X (wfm ad cs) 0 0 (PV res) r_LV_fill "fill")  (N : Nat) (x2 : Int32) (σ : ST) (hf : LV_fill_L10 N x2 σ = some res) : J (wfm ad cs) X 3 0 0 σ 10 [(0, .ref (ad 5)), (1, .ref (ad 1)), (2, .int x2)] [] := by
  induction N generalizing x2 σ with
  | zero => exact nomatch hf
  | succ N ih => exact w_LV_fill_b10 C Rt  (fun x2 σ h => ih x2 σ h) x2 σ hf
def LV_fill (σ : ST) : Option (ST) :=
  bd1 (AR_fill (0 : Int32) σ) fun σ5 =>
  LV_fill_L10 FU (0 : Int32) σ5
set_option maxRecDepth 100000 in
set_option maxHeartbeats 4000000 in
theorem m_LV_fill (l : Launch) (D : va_G) (ad : Nat → Nat) (cs : Nat → ClassId) (eE : Nat × Nat) (σ : ST) {res : ST} (hf : LV_fill σ = some res) : MS l y_LV_fill (Cond.code y_LV_fill b_LV_fill 3 r_LV_fill :: BIG) 3 71 0 0 (wfm ad cs) D (ttf cs) eE [.ref (ad 5), .ref (ad 1)] σ (PV res) := by
  refine MS.of (cc := b_LV_fill) (maxL := 3) (ret := r_LV_fill) (by decide) rfl (Nat.le_of_ble_eq_true rfl) (loc := [(0, .ref (ad 5)), (1, .ref (ad 1))]) rfl (fun X C Rt => ?_)
  unfold LV_fill at hf
  refine j_aload_n C 0 rfl rfl d_LV_fill_0 ?_
  refine g_LV_row C (List.mem_cons_of_mem _ wd_1_213) d_LV_fill_1 ?_
  refine j_iconst C (v := 0) (by decide) d_LV_fill_4 ?_
  obtain ⟨σ5, h5, hf⟩ := o_b1 hf
  refine j_callS C [.ref (ad 17), .int (0 : Int32)] [] (m_AR_fill _ _ _ _ _ (0 : Int32) σ h5) (gdS wd_3_210 wd_3_211 wd_1_18 wc_AR_fill) hy_AR_fill rfl rfl (by decide) (by decide) (by decide) (by decide) (Nat.le_of_ble_eq_true rfl) d_LV_fill_5 (j_kV (σ1 := σ5) ?_)
  refine j_iconst C (v := 0) (by decide) d_LV_fill_8 ?_
  refine j_istore_n C rfl (by decide) (loc' := [(2, .int (0 : Int32)), (0, .ref (ad 5)), (1, .ref (ad 1))]) rfl d_LV_fill_9 ?_
  refine j_sub [1, 2, 0] rfl ?_
  exact w_LV_fill_L10 C Rt  FU (0 : Int32) σ5 hf
theorem d_LV_mix_0 : decode b_LV_mix 0 = .ok (.bipush 31, 2) := by decide +kernel
theorem d_LV_mix_2 : decode b_LV_mix 2 = .ok (.iload_n 0, 1) := by decide +kernel
theorem d_LV_mix_3 : decode b_LV_mix 3 = .ok (.imul, 1) := by decide +kernel
theorem d_LV_mix_4 : decode b_LV_mix 4 = .ok (.iload_n 1, 1) := by decide +kernel
theorem d_LV_mix_5 : decode b_LV_mix 5 = .ok (.iadd, 1) := by decide +kernel
theorem d_LV_mix_6 : decode b_LV_mix 6 = .ok (.istore_n 2, 1) := by decide +kernel
theorem d_LV_mix_7 : decode b_LV_mix 7 = .ok (.iload_n 2, 1) := by decide +kernel
theorem d_LV_mix_8 : decode b_LV_mix 8 = .ok (.iload_n 2, 1) := by decide +kernel
theorem d_LV_mix_9 : decode b_LV_mix 9 = .ok (.bipush 11, 2) := by decide +kernel
theorem d_LV_mix_11 : decode b_LV_mix 11 = .ok (.iushr, 1) := by decide +kernel
theorem d_LV_mix_12 : decode b_LV_mix 12 = .ok (.ixor, 1) := by decide +kernel
theorem d_LV_mix_13 : decode b_LV_mix 13 = .ok (.ireturn, 1) := by decide +kernel
def LV_mix (x0 : Int32) (x1 : Int32) : Option (Int32) :=
  nmI (((31 : Int32) * x0) + x1) fun x2_6 =>
  some (x2_6 ^^^ (ushr x2_6 (11 : Int32)))
set_option maxRecDepth 100000 in
set_option maxHeartbeats 4000000 in
theorem m_LV_mix (l : Launch) (D : va_G) (ad : Nat → Nat) (cs : Nat → ClassId) (eE : Nat × Nat) (x0 : Int32) (x1 : Int32) (σ : ST) {res : Int32} (hf : LV_mix x0 x1 = some res) : MS l y_LV_mix (Cond.code y_LV_mix b_LV_mix 3 r_LV_mix :: BIG) 0 0 0 0 (wfm ad cs) D (ttf cs) eE [.int x0, .int x1] σ (PI res σ) := by
  refine MS.of (cc := b_LV_mix) (maxL := 3) (ret := r_LV_mix) (by decide) rfl (Nat.le_of_ble_eq_true rfl) (loc := [(0, .int x0), (1, .int x1)]) rfl (fun X C Rt => ?_)
  unfold LV_mix at hf
  refine j_bipush C (v := 31) (by decide) d_LV_mix_0 ?_
  refine j_iload_n C 0 rfl rfl d_LV_mix_2 ?_
  refine j_imul C d_LV_mix_3 ?_
  refine j_iload_n C 1 rfl rfl d_LV_mix_4 ?_
  refine j_iadd C d_LV_mix_5 ?_
  obtain ⟨x2_6, ex2_6, hf⟩ := o_nmI hf
  refine j_topI ex2_6 ?_
  refine j_istore_n C rfl (by decide) (loc' := [(2, .int x2_6), (0, .int x0), (1, .int x1)]) rfl d_LV_mix_6 ?_
  refine j_iload_n C 0 rfl rfl d_LV_mix_7 ?_
  refine j_iload_n C 0 rfl rfl d_LV_mix_8 ?_
  refine j_bipush C (v := 11) (by decide) d_LV_mix_9 ?_
  refine j_iushr C d_LV_mix_11 ?_
  refine j_ixor C d_LV_mix_12 ?_
  have hf := Option.some.inj hf
  subst hf
  exact j_iret C Rt (Nat.zero_le _) (Nat.zero_le _) d_LV_mix_13 ⟨rfl, rfl⟩
theorem d_LV_inner_0 : decode b_LV_inner 0 = .ok (.bipush 7, 2) := by decide +kernel
theorem d_LV_inner_2 : decode b_LV_inner 2 = .ok (.istore_n 2, 1) := by decide +kernel
theorem d_LV_inner_3 : decode b_LV_inner 3 = .ok (.iload_n 1, 1) := by decide +kernel
theorem d_LV_inner_4 : decode b_LV_inner 4 = .ok (.istore_n 3, 1) := by decide +kernel
theorem d_LV_inner_5 : decode b_LV_inner 5 = .ok (.iload_n 3, 1) := by decide +kernel
theorem d_LV_inner_6 : decode b_LV_inner 6 = .ok (.iload_n 1, 1) := by decide +kernel
theorem d_LV_inner_7 : decode b_LV_inner 7 = .ok (.bipush 16, 2) := by decide +kernel
theorem d_LV_inner_9 : decode b_LV_inner 9 = .ok (.iadd, 1) := by decide +kernel
theorem d_LV_inner_10 : decode b_LV_inner 10 = .ok (.if_icmp .ge 20, 3) := by decide +kernel
theorem d_LV_inner_13 : decode b_LV_inner 13 = .ok (.iload_n 2, 1) := by decide +kernel
theorem d_LV_inner_14 : decode b_LV_inner 14 = .ok (.aload_n 0, 1) := by decide +kernel
theorem d_LV_inner_15 : decode b_LV_inner 15 = .ok (.getfield 11, 3) := by decide +kernel
theorem d_LV_inner_18 : decode b_LV_inner 18 = .ok (.iload_n 3, 1) := by decide +kernel
theorem d_LV_inner_19 : decode b_LV_inner 19 = .ok (.iaload, 1) := by decide +kernel
theorem d_LV_inner_20 : decode b_LV_inner 20 = .ok (.invokestatic 72, 3) := by decide +kernel
theorem d_LV_inner_23 : decode b_LV_inner 23 = .ok (.istore_n 2, 1) := by decide +kernel
theorem d_LV_inner_24 : decode b_LV_inner 24 = .ok (.iinc 3 1, 3) := by decide +kernel
theorem d_LV_inner_27 : decode b_LV_inner 27 = .ok (.goto (-22), 3) := by decide +kernel
theorem d_LV_inner_30 : decode b_LV_inner 30 = .ok (.iload_n 2, 1) := by decide +kernel
theorem d_LV_inner_31 : decode b_LV_inner 31 = .ok (.ireturn, 1) := by decide +kernel
def LV_inner_b5 (kb5 : Int32 → Int32 → Int32 → ST → Option (Int32)) (x1 : Int32) (x2 : Int32) (x3 : Int32) (σ : ST) : Option (Int32) :=
  if (x1 + (16 : Int32)) ≤ x3 then (some x2)
  else (if x3 < 0 ∨ 64 ≤ x3.toNatClampNeg then none else
  bd1 (LV_mix x2 (gA σ 7 x3.toNatClampNeg)) fun r20 =>
  kb5 x1 r20 (x3 + 1) σ)
set_option maxRecDepth 100000 in
set_option maxHeartbeats 4000000 in
theorem w_LV_inner_b5 {X : JX} (C : JC X l D (ttf cs) eE b_LV_inner "TollLedger$Leaves" 4 (Cond.code y_LV_inner b_LV_inner 4 r_LV_inner :: BIG) 1 22 0 0) {σ : ST} {res : Int32} (Rt : JR X (wfm ad cs) 0 0 (PI res σ) r_LV_inner "inner") {kb5 : Int32 → Int32 → Int32 → ST → Option (Int32)} (hk5 : ∀ (x1 : Int32) (x2 : Int32) (x3 : Int32), kb5 x1 x2 x3 σ = some res → J (wfm ad cs) X 4 0 0 σ 5 [(0, .ref (ad 5)), (1, .int x1), (2, .int x2), (3, .int x3)] []) (x1 : Int32) (x2 : Int32) (x3 : Int32) (hf : LV_inner_b5 kb5 x1 x2 x3 σ = some res) : J (wfm ad cs) X 4 0 0 σ 5 [(0, .ref (ad 5)), (1, .int x1), (2, .int x2), (3, .int x3)] [] := by
  unfold LV_inner_b5 at hf
  refine j_iload_n C 3 rfl rfl d_LV_inner_5 ?_
  refine j_iload_n C 1 rfl rfl d_LV_inner_6 ?_
  refine j_bipush C (v := 16) (by decide) d_LV_inner_7 ?_
  refine j_iadd C d_LV_inner_9 ?_
  refine j_icmp_ge C d_LV_inner_10 rfl (fun c10 => ?_) (fun c10 => ?_)
  · have hf := o_it c10 hf
    refine j_iload_n C 2 rfl rfl d_LV_inner_30 ?_
    have hf := Option.some.inj hf
    subst hf
    exact j_iret C Rt (Nat.zero_le _) (Nat.zero_le _) d_LV_inner_31 ⟨rfl, rfl⟩
  · have hf := o_if c10 hf
    refine j_iload_n C 2 rfl rfl d_LV_inner_13 ?_
    refine j_aload_n C 0 rfl rfl d_LV_inner_14 ?_
    refine g_LV_row C (List.mem_cons_of_mem _ wd_1_213) d_LV_inner_15 ?_
    refine j_iload_n C 3 rfl rfl d_LV_inner_18 ?_
    obtain ⟨g19, hf⟩ := o_gn hf
    refine la_lrow C g19 d_LV_inner_19 ?_
    obtain ⟨r20, h20, hf⟩ := o_b1 hf
    refine j_callS C [.int x2, .int (gA σ 7 x3.toNatClampNeg)] [] (m_LV_mix _ _ _ _ _ x2 (gA σ 7 x3.toNatClampNeg) σ h20) (gdS wd_4_9 wd_4_10 wd_1_10 wc_LV_mix) hy_LV_mix rfl rfl (by decide) (by decide) (by decide) (by decide) (Nat.le_of_ble_eq_true rfl) d_LV_inner_20 (j_kI (r := r20) (σ1 := σ) ?_)
    refine j_istore_n C rfl (by decide) (loc' := [(2, .int r20), (0, .ref (ad 5)), (1, .int x1), (3, .int x3)]) rfl d_LV_inner_23 ?_
    refine j_iinc C 3 rfl (v := (x3 + 1)) (inc_p1 _) (by decide) (loc' := [(3, .int (x3 + 1)), (2, .int r20), (0, .ref (ad 5)), (1, .int x1)]) rfl d_LV_inner_24 ?_
    refine j_goto C d_LV_inner_27 rfl ?_
    refine j_sub [2, 3, 1, 0] rfl ?_
    exact hk5 x1 r20 (x3 + 1) hf
def LV_inner_L5 : Nat → Int32 → Int32 → Int32 → ST → Option (Int32)
  | 0, _, _, _, _ => none
  | N + 1, x1, x2, x3, σ => LV_inner_b5 (fun x1 x2 x3 σ => LV_inner_L5 N x1 x2 x3 σ) x1 x2 x3 σ
theorem w_LV_inner_L5 {X : JX} (C : JC X l D (ttf cs) eE b_LV_inner "TollLedger$Leaves" 4 (Cond.code y_LV_inner b_LV_inner 4 r_LV_inner :: BIG) 1 22 0 0) {σ : ST} {res : Int32} (Rt : JR X (wfm ad cs) 0 0 (PI res σ) r_LV_inner "inner")  (N : Nat) (x1 : Int32) (x2 : Int32) (x3 : Int32) (hf : LV_inner_L5 N x1 x2 x3 σ = some res) : J (wfm ad cs) X 4 0 0 σ 5 [(0, .ref (ad 5)), (1, .int x1), (2, .int x2), (3, .int x3)] [] := by
  induction N generalizing x1 x2 x3 with
  | zero => exact nomatch hf
  | succ N ih => exact w_LV_inner_b5 C Rt  (fun x1 x2 x3 h => ih x1 x2 x3 h) x1 x2 x3 hf
def LV_inner (x1 : Int32) (σ : ST) : Option (Int32) :=
  LV_inner_L5 FU x1 (7 : Int32) x1 σ
set_option maxRecDepth 100000 in
set_option maxHeartbeats 4000000 in
theorem m_LV_inner (l : Launch) (D : va_G) (ad : Nat → Nat) (cs : Nat → ClassId) (eE : Nat × Nat) (x1 : Int32) (σ : ST) {res : Int32} (hf : LV_inner x1 σ = some res) : MS l y_LV_inner (Cond.code y_LV_inner b_LV_inner 4 r_LV_inner :: BIG) 1 22 0 0 (wfm ad cs) D (ttf cs) eE [.ref (ad 5), .int x1] σ (PI res σ) := by
  refine MS.of (cc := b_LV_inner) (maxL := 4) (ret := r_LV_inner) (by decide) rfl (Nat.le_of_ble_eq_true rfl) (loc := [(0, .ref (ad 5)), (1, .int x1)]) rfl (fun X C Rt => ?_)
  unfold LV_inner at hf
  refine j_bipush C (v := 7) (by decide) d_LV_inner_0 ?_
  refine j_istore_n C rfl (by decide) (loc' := [(2, .int (7 : Int32)), (0, .ref (ad 5)), (1, .int x1)]) rfl d_LV_inner_2 ?_
  refine j_iload_n C 2 rfl rfl d_LV_inner_3 ?_
  refine j_istore_n C rfl (by decide) (loc' := [(3, .int x1), (2, .int (7 : Int32)), (0, .ref (ad 5)), (1, .int x1)]) rfl d_LV_inner_4 ?_
  refine j_sub [2, 3, 1, 0] rfl ?_
  exact w_LV_inner_L5 C Rt  FU x1 (7 : Int32) x1 hf
theorem d_LV_fold_0 : decode b_LV_fold 0 = .ok (.bipush 7, 2) := by decide +kernel
theorem d_LV_fold_2 : decode b_LV_fold 2 = .ok (.istore_n 1, 1) := by decide +kernel
theorem d_LV_fold_3 : decode b_LV_fold 3 = .ok (.iconst 0, 1) := by decide +kernel
theorem d_LV_fold_4 : decode b_LV_fold 4 = .ok (.istore_n 2, 1) := by decide +kernel
theorem d_LV_fold_5 : decode b_LV_fold 5 = .ok (.iload_n 2, 1) := by decide +kernel
theorem d_LV_fold_6 : decode b_LV_fold 6 = .ok (.bipush 64, 2) := by decide +kernel
theorem d_LV_fold_8 : decode b_LV_fold 8 = .ok (.if_icmp .ge 19, 3) := by decide +kernel
theorem d_LV_fold_11 : decode b_LV_fold 11 = .ok (.iload_n 1, 1) := by decide +kernel
theorem d_LV_fold_12 : decode b_LV_fold 12 = .ok (.aload_n 0, 1) := by decide +kernel
theorem d_LV_fold_13 : decode b_LV_fold 13 = .ok (.iload_n 2, 1) := by decide +kernel
theorem d_LV_fold_14 : decode b_LV_fold 14 = .ok (.invokevirtual 68, 3) := by decide +kernel
theorem d_LV_fold_17 : decode b_LV_fold 17 = .ok (.invokestatic 72, 3) := by decide +kernel
theorem d_LV_fold_20 : decode b_LV_fold 20 = .ok (.istore_n 1, 1) := by decide +kernel
theorem d_LV_fold_21 : decode b_LV_fold 21 = .ok (.iinc 2 16, 3) := by decide +kernel
theorem d_LV_fold_24 : decode b_LV_fold 24 = .ok (.goto (-19), 3) := by decide +kernel
theorem d_LV_fold_27 : decode b_LV_fold 27 = .ok (.iload_n 1, 1) := by decide +kernel
theorem d_LV_fold_28 : decode b_LV_fold 28 = .ok (.ireturn, 1) := by decide +kernel
def LV_fold_b5 (kb5 : Int32 → Int32 → ST → Option (Int32)) (x1 : Int32) (x2 : Int32) (σ : ST) : Option (Int32) :=
  if (64 : Int32) ≤ x2 then (some x1)
  else (bd1 (LV_inner x2 σ) fun r14 =>
  bd1 (LV_mix x1 r14) fun r17 =>
  kb5 r17 (x2 + 16) σ)
set_option maxRecDepth 100000 in
set_option maxHeartbeats 4000000 in
theorem w_LV_fold_b5 {X : JX} (C : JC X l D (ttf cs) eE b_LV_fold "TollLedger$Leaves" 3 (Cond.code y_LV_fold b_LV_fold 3 r_LV_fold :: BIG) 2 45 0 0) {σ : ST} {res : Int32} (Rt : JR X (wfm ad cs) 0 0 (PI res σ) r_LV_fold "fold") {kb5 : Int32 → Int32 → ST → Option (Int32)} (hk5 : ∀ (x1 : Int32) (x2 : Int32), kb5 x1 x2 σ = some res → J (wfm ad cs) X 3 0 0 σ 5 [(0, .ref (ad 5)), (1, .int x1), (2, .int x2)] []) (x1 : Int32) (x2 : Int32) (hf : LV_fold_b5 kb5 x1 x2 σ = some res) : J (wfm ad cs) X 3 0 0 σ 5 [(0, .ref (ad 5)), (1, .int x1), (2, .int x2)] [] := by
  unfold LV_fold_b5 at hf
  refine j_iload_n C 2 rfl rfl d_LV_fold_5 ?_
  refine j_bipush C (v := 64) (by decide) d_LV_fold_6 ?_
  refine j_icmp_ge C d_LV_fold_8 rfl (fun c8 => ?_) (fun c8 => ?_)
  · have hf := o_it c8 hf
    refine j_iload_n C 1 rfl rfl d_LV_fold_27 ?_
    have hf := Option.some.inj hf
    subst hf
    exact j_iret C Rt (Nat.zero_le _) (Nat.zero_le _) d_LV_fold_28 ⟨rfl, rfl⟩
  · have hf := o_if c8 hf
    refine j_iload_n C 1 rfl rfl d_LV_fold_11 ?_
    refine j_aload_n C 0 rfl rfl d_LV_fold_12 ?_
    refine j_iload_n C 2 rfl rfl d_LV_fold_13 ?_
    obtain ⟨r14, h14, hf⟩ := o_b1 hf
    refine j_callV (ci := 5) (Cn := "TollLedger$Leaves") (T := T_LV) (N := 1) C [.int x2] [.int x1] (m_LV_inner _ _ _ _ _ x2 σ h14) (gdV wd_4_5 wd_4_7 wp_16 wd_1_10 wc_LV_inner) hy_LV_inner rfl ⟨5, rfl⟩ rfl rfl (by decide) (by decide) (by decide) (by decide) (Nat.le_of_ble_eq_true rfl) d_LV_fold_14 (j_kI (r := r14) (σ1 := σ) ?_)
    obtain ⟨r17, h17, hf⟩ := o_b1 hf
    refine j_callS C [.int x1, .int r14] [] (m_LV_mix _ _ _ _ _ x1 r14 σ h17) (gdS wd_4_9 wd_4_10 wd_1_10 wc_LV_mix) hy_LV_mix rfl rfl (by decide) (by decide) (by decide) (by decide) (Nat.le_of_ble_eq_true rfl) d_LV_fold_17 (j_kI (r := r17) (σ1 := σ) ?_)
    refine j_istore_n C rfl (by decide) (loc' := [(1, .int r17), (0, .ref (ad 5)), (2, .int x2)]) rfl d_LV_fold_20 ?_
    refine j_iinc C 2 rfl (v := (x2 + 16)) (inc_p16 _) (by decide) (loc' := [(2, .int (x2 + 16)), (1, .int r17), (0, .ref (ad 5))]) rfl d_LV_fold_21 ?_
    refine j_goto C d_LV_fold_24 rfl ?_
    refine j_sub [2, 1, 0] rfl ?_
    exact hk5 r17 (x2 + 16) hf
def LV_fold_L5 : Nat → Int32 → Int32 → ST → Option (Int32)
  | 0, _, _, _ => none
  | N + 1, x1, x2, σ => LV_fold_b5 (fun x1 x2 σ => LV_fold_L5 N x1 x2 σ) x1 x2 σ
theorem w_LV_fold_L5 {X : JX} (C : JC X l D (ttf cs) eE b_LV_fold "TollLedger$Leaves" 3 (Cond.code y_LV_fold b_LV_fold 3 r_LV_fold :: BIG) 2 45 0 0) {σ : ST} {res : Int32} (Rt : JR X (wfm ad cs) 0 0 (PI res σ) r_LV_fold "fold")  (N : Nat) (x1 : Int32) (x2 : Int32) (hf : LV_fold_L5 N x1 x2 σ = some res) : J (wfm ad cs) X 3 0 0 σ 5 [(0, .ref (ad 5)), (1, .int x1), (2, .int x2)] [] := by
  induction N generalizing x1 x2 with
  | zero => exact nomatch hf
  | succ N ih => exact w_LV_fold_b5 C Rt  (fun x1 x2 h => ih x1 x2 h) x1 x2 hf
def LV_fold (σ : ST) : Option (Int32) :=
  LV_fold_L5 FU (7 : Int32) (0 : Int32) σ
set_option maxRecDepth 100000 in
set_option maxHeartbeats 4000000 in
theorem m_LV_fold (l : Launch) (D : va_G) (ad : Nat → Nat) (cs : Nat → ClassId) (eE : Nat × Nat) (σ : ST) {res : Int32} (hf : LV_fold σ = some res) : MS l y_LV_fold (Cond.code y_LV_fold b_LV_fold 3 r_LV_fold :: BIG) 2 45 0 0 (wfm ad cs) D (ttf cs) eE [.ref (ad 5)] σ (PI res σ) := by
  refine MS.of (cc := b_LV_fold) (maxL := 3) (ret := r_LV_fold) (by decide) rfl (Nat.le_of_ble_eq_true rfl) (loc := [(0, .ref (ad 5))]) rfl (fun X C Rt => ?_)
  unfold LV_fold at hf
  refine j_bipush C (v := 7) (by decide) d_LV_fold_0 ?_
  refine j_istore_n C rfl (by decide) (loc' := [(1, .int (7 : Int32)), (0, .ref (ad 5))]) rfl d_LV_fold_2 ?_
  refine j_iconst C (v := 0) (by decide) d_LV_fold_3 ?_
  refine j_istore_n C rfl (by decide) (loc' := [(2, .int (0 : Int32)), (1, .int (7 : Int32)), (0, .ref (ad 5))]) rfl d_LV_fold_4 ?_
  refine j_sub [2, 1, 0] rfl ?_
  exact w_LV_fold_L5 C Rt  FU (7 : Int32) (0 : Int32) hf
theorem d_LN_grow_0 : decode b_LN_grow 0 = .ok (.aload_n 0, 1) := by decide +kernel
theorem d_LN_grow_1 : decode b_LN_grow 1 = .ok (.getfield 11, 3) := by decide +kernel
theorem d_LN_grow_4 : decode b_LN_grow 4 = .ok (.iload_n 1, 1) := by decide +kernel
theorem d_LN_grow_5 : decode b_LN_grow 5 = .ok (.iload_n 2, 1) := by decide +kernel
theorem d_LN_grow_6 : decode b_LN_grow 6 = .ok (.iload_n 3, 1) := by decide +kernel
theorem d_LN_grow_7 : decode b_LN_grow 7 = .ok (.invokestatic 22, 3) := by decide +kernel
theorem d_LN_grow_10 : decode b_LN_grow 10 = .ok (.dup2, 1) := by decide +kernel
theorem d_LN_grow_11 : decode b_LN_grow 11 = .ok (.iaload, 1) := by decide +kernel
theorem d_LN_grow_12 : decode b_LN_grow 12 = .ok (.iload 4, 2) := by decide +kernel
theorem d_LN_grow_14 : decode b_LN_grow 14 = .ok (.iadd, 1) := by decide +kernel
theorem d_LN_grow_15 : decode b_LN_grow 15 = .ok (.iastore, 1) := by decide +kernel
theorem d_LN_grow_16 : decode b_LN_grow 16 = .ok (.aload_n 0, 1) := by decide +kernel
theorem d_LN_grow_17 : decode b_LN_grow 17 = .ok (.getfield 11, 3) := by decide +kernel
theorem d_LN_grow_20 : decode b_LN_grow 20 = .ok (.iload_n 2, 1) := by decide +kernel
theorem d_LN_grow_21 : decode b_LN_grow 21 = .ok (.iload_n 1, 1) := by decide +kernel
theorem d_LN_grow_22 : decode b_LN_grow 22 = .ok (.iload_n 3, 1) := by decide +kernel
theorem d_LN_grow_23 : decode b_LN_grow 23 = .ok (.invokestatic 22, 3) := by decide +kernel
theorem d_LN_grow_26 : decode b_LN_grow 26 = .ok (.dup2, 1) := by decide +kernel
theorem d_LN_grow_27 : decode b_LN_grow 27 = .ok (.iaload, 1) := by decide +kernel
theorem d_LN_grow_28 : decode b_LN_grow 28 = .ok (.iload 4, 2) := by decide +kernel
theorem d_LN_grow_30 : decode b_LN_grow 30 = .ok (.isub, 1) := by decide +kernel
theorem d_LN_grow_31 : decode b_LN_grow 31 = .ok (.iastore, 1) := by decide +kernel
theorem d_LN_grow_32 : decode b_LN_grow 32 = .ok (.return_, 1) := by decide +kernel
def LN_grow (x1 : Int32) (x2 : Int32) (x3 : Int32) (x4 : Int32) (σ : ST) : Option (ST) :=
  bd1 (LN_side x1 x2 x3) fun r7 =>
  if r7 < 0 ∨ 72 ≤ r7.toNatClampNeg then none else
  nmS (sA σ 0 r7.toNatClampNeg ((gA σ 0 r7.toNatClampNeg) + x4)) fun σ15 =>
  bd1 (LN_side x2 x1 x3) fun r23 =>
  if r23 < 0 ∨ 72 ≤ r23.toNatClampNeg then none else
  nmS (sA σ15 0 r23.toNatClampNeg ((gA σ15 0 r23.toNatClampNeg) - x4)) fun σ31 =>
  some σ31
set_option maxRecDepth 100000 in
set_option maxHeartbeats 4000000 in
theorem m_LN_grow (l : Launch) (D : va_G) (ad : Nat → Nat) (cs : Nat → ClassId) (eE : Nat × Nat) (x1 : Int32) (x2 : Int32) (x3 : Int32) (x4 : Int32) (σ : ST) {res : ST} (hf : LN_grow x1 x2 x3 x4 σ = some res) : MS l y_LN_grow (Cond.code y_LN_grow b_LN_grow 5 r_LN_grow :: BIG) 1 22 0 0 (wfm ad cs) D (ttf cs) eE [.ref (ad 2), .int x1, .int x2, .int x3, .int x4] σ (PV res) := by
  refine MS.of (cc := b_LN_grow) (maxL := 5) (ret := r_LN_grow) (by decide) rfl (Nat.le_of_ble_eq_true rfl) (loc := [(0, .ref (ad 2)), (1, .int x1), (2, .int x2), (3, .int x3), (4, .int x4)]) rfl (fun X C Rt => ?_)
  unfold LN_grow at hf
  refine j_aload_n C 0 rfl rfl d_LN_grow_0 ?_
  refine g_LN_balances C (List.mem_cons_of_mem _ wd_1_42) d_LN_grow_1 ?_
  refine j_iload_n C 1 rfl rfl d_LN_grow_4 ?_
  refine j_iload_n C 2 rfl rfl d_LN_grow_5 ?_
  refine j_iload_n C 3 rfl rfl d_LN_grow_6 ?_
  obtain ⟨r7, h7, hf⟩ := o_b1 hf
  refine j_callS C [.int x1, .int x2, .int x3] [.ref (ad 9)] (m_LN_side _ _ _ _ _ x1 x2 x3 σ h7) (gdS wd_2_47 wd_2_48 wd_1_3 wc_LN_side) hy_LN_side rfl rfl (by decide) (by decide) (by decide) (by decide) (Nat.le_of_ble_eq_true rfl) d_LN_grow_7 (j_kI (r := r7) (σ1 := σ) ?_)
  refine j_dup2 C rfl rfl d_LN_grow_10 ?_
  obtain ⟨g11, hf⟩ := o_gn hf
  refine la_bal C g11 d_LN_grow_11 ?_
  refine j_iload C 4 rfl d_LN_grow_12 ?_
  refine j_iadd C d_LN_grow_14 ?_
  obtain ⟨σ15, eσ15, hf⟩ := o_nmS hf
  refine sa_bal C g11 eσ15 d_LN_grow_15 ?_
  refine j_aload_n C 0 rfl rfl d_LN_grow_16 ?_
  refine g_LN_balances C (List.mem_cons_of_mem _ wd_1_42) d_LN_grow_17 ?_
  refine j_iload_n C 2 rfl rfl d_LN_grow_20 ?_
  refine j_iload_n C 1 rfl rfl d_LN_grow_21 ?_
  refine j_iload_n C 3 rfl rfl d_LN_grow_22 ?_
  obtain ⟨r23, h23, hf⟩ := o_b1 hf
  refine j_callS C [.int x2, .int x1, .int x3] [.ref (ad 9)] (m_LN_side _ _ _ _ _ x2 x1 x3 σ15 h23) (gdS wd_2_47 wd_2_48 wd_1_3 wc_LN_side) hy_LN_side rfl rfl (by decide) (by decide) (by decide) (by decide) (Nat.le_of_ble_eq_true rfl) d_LN_grow_23 (j_kI (r := r23) (σ1 := σ15) ?_)
  refine j_dup2 C rfl rfl d_LN_grow_26 ?_
  obtain ⟨g27, hf⟩ := o_gn hf
  refine la_bal C g27 d_LN_grow_27 ?_
  refine j_iload C 4 rfl d_LN_grow_28 ?_
  refine j_isub C d_LN_grow_30 ?_
  obtain ⟨σ31, eσ31, hf⟩ := o_nmS hf
  refine sa_bal C g27 eσ31 d_LN_grow_31 ?_
  have hf := Option.some.inj hf
  subst hf
  exact j_vret C Rt (Nat.zero_le _) (Nat.zero_le _) d_LN_grow_32 ⟨rfl, rfl⟩
theorem d_LN_hasRoom_0 : decode b_LN_hasRoom 0 = .ok (.aload_n 0, 1) := by decide +kernel
theorem d_LN_hasRoom_1 : decode b_LN_hasRoom 1 = .ok (.getfield 11, 3) := by decide +kernel
theorem d_LN_hasRoom_4 : decode b_LN_hasRoom 4 = .ok (.iload_n 1, 1) := by decide +kernel
theorem d_LN_hasRoom_5 : decode b_LN_hasRoom 5 = .ok (.iaload, 1) := by decide +kernel
theorem d_LN_hasRoom_6 : decode b_LN_hasRoom 6 = .ok (.iload_n 2, 1) := by decide +kernel
theorem d_LN_hasRoom_7 : decode b_LN_hasRoom 7 = .ok (.iadd, 1) := by decide +kernel
theorem d_LN_hasRoom_8 : decode b_LN_hasRoom 8 = .ok (.aload_n 0, 1) := by decide +kernel
theorem d_LN_hasRoom_9 : decode b_LN_hasRoom 9 = .ok (.getfield 15, 3) := by decide +kernel
theorem d_LN_hasRoom_12 : decode b_LN_hasRoom 12 = .ok (.iload_n 1, 1) := by decide +kernel
theorem d_LN_hasRoom_13 : decode b_LN_hasRoom 13 = .ok (.iaload, 1) := by decide +kernel
theorem d_LN_hasRoom_14 : decode b_LN_hasRoom 14 = .ok (.if_icmp .gt 7, 3) := by decide +kernel
theorem d_LN_hasRoom_17 : decode b_LN_hasRoom 17 = .ok (.iconst 1, 1) := by decide +kernel
theorem d_LN_hasRoom_18 : decode b_LN_hasRoom 18 = .ok (.goto 4, 3) := by decide +kernel
theorem d_LN_hasRoom_21 : decode b_LN_hasRoom 21 = .ok (.iconst 0, 1) := by decide +kernel
theorem d_LN_hasRoom_22 : decode b_LN_hasRoom 22 = .ok (.ireturn, 1) := by decide +kernel
def LN_hasRoom (x1 : Int32) (x2 : Int32) (σ : ST) : Option (Int32) :=
  if x1 < 0 ∨ 72 ≤ x1.toNatClampNeg then none else
  if (gA σ 1 x1.toNatClampNeg) < ((gA σ 0 x1.toNatClampNeg) + x2) then (some (0 : Int32))
  else (some (1 : Int32))
set_option maxRecDepth 100000 in
set_option maxHeartbeats 4000000 in
theorem m_LN_hasRoom (l : Launch) (D : va_G) (ad : Nat → Nat) (cs : Nat → ClassId) (eE : Nat × Nat) (x1 : Int32) (x2 : Int32) (σ : ST) {res : Int32} (hf : LN_hasRoom x1 x2 σ = some res) : MS l y_LN_hasRoom (Cond.code y_LN_hasRoom b_LN_hasRoom 3 r_LN_hasRoom :: BIG) 0 0 0 0 (wfm ad cs) D (ttf cs) eE [.ref (ad 2), .int x1, .int x2] σ (PI res σ) := by
  refine MS.of (cc := b_LN_hasRoom) (maxL := 3) (ret := r_LN_hasRoom) (by decide) rfl (Nat.le_of_ble_eq_true rfl) (loc := [(0, .ref (ad 2)), (1, .int x1), (2, .int x2)]) rfl (fun X C Rt => ?_)
  unfold LN_hasRoom at hf
  refine j_aload_n C 0 rfl rfl d_LN_hasRoom_0 ?_
  refine g_LN_balances C (List.mem_cons_of_mem _ wd_1_42) d_LN_hasRoom_1 ?_
  refine j_iload_n C 1 rfl rfl d_LN_hasRoom_4 ?_
  obtain ⟨g5, hf⟩ := o_gn hf
  refine la_bal C g5 d_LN_hasRoom_5 ?_
  refine j_iload_n C 2 rfl rfl d_LN_hasRoom_6 ?_
  refine j_iadd C d_LN_hasRoom_7 ?_
  refine j_aload_n C 0 rfl rfl d_LN_hasRoom_8 ?_
  refine g_LN_limits C (List.mem_cons_of_mem _ wd_1_45) d_LN_hasRoom_9 ?_
  refine j_iload_n C 1 rfl rfl d_LN_hasRoom_12 ?_
  refine la_lim C g5 d_LN_hasRoom_13 ?_
  refine j_icmp_gt C d_LN_hasRoom_14 rfl (fun c14 => ?_) (fun c14 => ?_)
  · have hf := o_it c14 hf
    refine j_iconst C (v := 0) (by decide) d_LN_hasRoom_21 ?_
    have hf := Option.some.inj hf
    subst hf
    exact j_zret C Rt (by decide) (Nat.zero_le _) (Nat.zero_le _) d_LN_hasRoom_22 ⟨rfl, rfl⟩
  · have hf := o_if c14 hf
    refine j_iconst C (v := 1) (by decide) d_LN_hasRoom_17 ?_
    refine j_goto C d_LN_hasRoom_18 rfl ?_
    have hf := Option.some.inj hf
    subst hf
    exact j_zret C Rt (by decide) (Nat.zero_le _) (Nat.zero_le _) d_LN_hasRoom_22 ⟨rfl, rfl⟩
theorem d_LN_isPiece_0 : decode b_LN_isPiece 0 = .ok (.aload_n 0, 1) := by decide +kernel
theorem d_LN_isPiece_1 : decode b_LN_isPiece 1 = .ok (.getfield 15, 3) := by decide +kernel
theorem d_LN_isPiece_4 : decode b_LN_isPiece 4 = .ok (.iload_n 1, 1) := by decide +kernel
theorem d_LN_isPiece_5 : decode b_LN_isPiece 5 = .ok (.iaload, 1) := by decide +kernel
theorem d_LN_isPiece_6 : decode b_LN_isPiece 6 = .ok (.ifCond .gt 12, 3) := by decide +kernel
theorem d_LN_isPiece_9 : decode b_LN_isPiece 9 = .ok (.aload_n 0, 1) := by decide +kernel
theorem d_LN_isPiece_10 : decode b_LN_isPiece 10 = .ok (.getfield 11, 3) := by decide +kernel
theorem d_LN_isPiece_13 : decode b_LN_isPiece 13 = .ok (.iload_n 1, 1) := by decide +kernel
theorem d_LN_isPiece_14 : decode b_LN_isPiece 14 = .ok (.iaload, 1) := by decide +kernel
theorem d_LN_isPiece_15 : decode b_LN_isPiece 15 = .ok (.ifCond .le 7, 3) := by decide +kernel
theorem d_LN_isPiece_18 : decode b_LN_isPiece 18 = .ok (.iconst 1, 1) := by decide +kernel
theorem d_LN_isPiece_19 : decode b_LN_isPiece 19 = .ok (.goto 4, 3) := by decide +kernel
theorem d_LN_isPiece_22 : decode b_LN_isPiece 22 = .ok (.iconst 0, 1) := by decide +kernel
theorem d_LN_isPiece_23 : decode b_LN_isPiece 23 = .ok (.ireturn, 1) := by decide +kernel
def LN_isPiece (x1 : Int32) (σ : ST) : Option (Int32) :=
  if x1 < 0 ∨ 72 ≤ x1.toNatClampNeg then none else
  if 0 < (gA σ 1 x1.toNatClampNeg) then (some (1 : Int32))
  else (if (gA σ 0 x1.toNatClampNeg) ≤ 0 then (some (0 : Int32))
  else (some (1 : Int32)))
set_option maxRecDepth 100000 in
set_option maxHeartbeats 4000000 in
theorem m_LN_isPiece (l : Launch) (D : va_G) (ad : Nat → Nat) (cs : Nat → ClassId) (eE : Nat × Nat) (x1 : Int32) (σ : ST) {res : Int32} (hf : LN_isPiece x1 σ = some res) : MS l y_LN_isPiece (Cond.code y_LN_isPiece b_LN_isPiece 2 r_LN_isPiece :: BIG) 0 0 0 0 (wfm ad cs) D (ttf cs) eE [.ref (ad 2), .int x1] σ (PI res σ) := by
  refine MS.of (cc := b_LN_isPiece) (maxL := 2) (ret := r_LN_isPiece) (by decide) rfl (Nat.le_of_ble_eq_true rfl) (loc := [(0, .ref (ad 2)), (1, .int x1)]) rfl (fun X C Rt => ?_)
  unfold LN_isPiece at hf
  refine j_aload_n C 0 rfl rfl d_LN_isPiece_0 ?_
  refine g_LN_limits C (List.mem_cons_of_mem _ wd_1_45) d_LN_isPiece_1 ?_
  refine j_iload_n C 1 rfl rfl d_LN_isPiece_4 ?_
  obtain ⟨g5, hf⟩ := o_gn hf
  refine la_lim C g5 d_LN_isPiece_5 ?_
  refine j_if_gt C d_LN_isPiece_6 rfl (fun c6 => ?_) (fun c6 => ?_)
  · have hf := o_it c6 hf
    refine j_iconst C (v := 1) (by decide) d_LN_isPiece_18 ?_
    refine j_goto C d_LN_isPiece_19 rfl ?_
    have hf := Option.some.inj hf
    subst hf
    exact j_zret C Rt (by decide) (Nat.zero_le _) (Nat.zero_le _) d_LN_isPiece_23 ⟨rfl, rfl⟩
  · have hf := o_if c6 hf
    refine j_aload_n C 0 rfl rfl d_LN_isPiece_9 ?_
    refine g_LN_balances C (List.mem_cons_of_mem _ wd_1_42) d_LN_isPiece_10 ?_
    refine j_iload_n C 1 rfl rfl d_LN_isPiece_13 ?_
    refine la_bal C g5 d_LN_isPiece_14 ?_
    refine j_if_le C d_LN_isPiece_15 rfl (fun c15 => ?_) (fun c15 => ?_)
    · have hf := o_it c15 hf
      refine j_iconst C (v := 0) (by decide) d_LN_isPiece_22 ?_
      have hf := Option.some.inj hf
      subst hf
      exact j_zret C Rt (by decide) (Nat.zero_le _) (Nat.zero_le _) d_LN_isPiece_23 ⟨rfl, rfl⟩
    · have hf := o_if c15 hf
      refine j_iconst C (v := 1) (by decide) d_LN_isPiece_18 ?_
      refine j_goto C d_LN_isPiece_19 rfl ?_
      have hf := Option.some.inj hf
      subst hf
      exact j_zret C Rt (by decide) (Nat.zero_le _) (Nat.zero_le _) d_LN_isPiece_23 ⟨rfl, rfl⟩
theorem d_LN_piecesOf_0 : decode b_LN_piecesOf 0 = .ok (.iload_n 1, 1) := by decide +kernel
theorem d_LN_piecesOf_1 : decode b_LN_piecesOf 1 = .ok (.iconst 0, 1) := by decide +kernel
theorem d_LN_piecesOf_2 : decode b_LN_piecesOf 2 = .ok (.iconst 1, 1) := by decide +kernel
theorem d_LN_piecesOf_3 : decode b_LN_piecesOf 3 = .ok (.invokestatic 22, 3) := by decide +kernel
theorem d_LN_piecesOf_6 : decode b_LN_piecesOf 6 = .ok (.istore_n 2, 1) := by decide +kernel
theorem d_LN_piecesOf_7 : decode b_LN_piecesOf 7 = .ok (.iconst 0, 1) := by decide +kernel
theorem d_LN_piecesOf_8 : decode b_LN_piecesOf 8 = .ok (.istore_n 3, 1) := by decide +kernel
theorem d_LN_piecesOf_9 : decode b_LN_piecesOf 9 = .ok (.iload_n 2, 1) := by decide +kernel
theorem d_LN_piecesOf_10 : decode b_LN_piecesOf 10 = .ok (.istore 4, 2) := by decide +kernel
theorem d_LN_piecesOf_12 : decode b_LN_piecesOf 12 = .ok (.iload 4, 2) := by decide +kernel
theorem d_LN_piecesOf_14 : decode b_LN_piecesOf 14 = .ok (.iload_n 2, 1) := by decide +kernel
theorem d_LN_piecesOf_15 : decode b_LN_piecesOf 15 = .ok (.bipush 12, 2) := by decide +kernel
theorem d_LN_piecesOf_17 : decode b_LN_piecesOf 17 = .ok (.iadd, 1) := by decide +kernel
theorem d_LN_piecesOf_18 : decode b_LN_piecesOf 18 = .ok (.if_icmp .ge 21, 3) := by decide +kernel
theorem d_LN_piecesOf_21 : decode b_LN_piecesOf 21 = .ok (.aload_n 0, 1) := by decide +kernel
theorem d_LN_piecesOf_22 : decode b_LN_piecesOf 22 = .ok (.iload 4, 2) := by decide +kernel
theorem d_LN_piecesOf_24 : decode b_LN_piecesOf 24 = .ok (.invokevirtual 26, 3) := by decide +kernel
theorem d_LN_piecesOf_27 : decode b_LN_piecesOf 27 = .ok (.ifCond .eq 6, 3) := by decide +kernel
theorem d_LN_piecesOf_30 : decode b_LN_piecesOf 30 = .ok (.iinc 3 1, 3) := by decide +kernel
theorem d_LN_piecesOf_33 : decode b_LN_piecesOf 33 = .ok (.iinc 4 1, 3) := by decide +kernel
theorem d_LN_piecesOf_36 : decode b_LN_piecesOf 36 = .ok (.goto (-24), 3) := by decide +kernel
theorem d_LN_piecesOf_39 : decode b_LN_piecesOf 39 = .ok (.iload_n 3, 1) := by decide +kernel
theorem d_LN_piecesOf_40 : decode b_LN_piecesOf 40 = .ok (.ireturn, 1) := by decide +kernel
def LN_piecesOf_b12 (kb12 : Int32 → Int32 → Int32 → ST → Option (Int32)) (x2 : Int32) (x3 : Int32) (x4 : Int32) (σ : ST) : Option (Int32) :=
  if (x2 + (12 : Int32)) ≤ x4 then (some x3)
  else (bd1 (LN_isPiece x4 σ) fun r24 =>
  if r24 = 0 then (kb12 x2 x3 (x4 + 1) σ)
  else (kb12 x2 (x3 + 1) (x4 + 1) σ))
set_option maxRecDepth 100000 in
set_option maxHeartbeats 4000000 in
theorem w_LN_piecesOf_b12 {X : JX} (C : JC X l D (ttf cs) eE b_LN_piecesOf "TollLedger$Lines" 5 (Cond.code y_LN_piecesOf b_LN_piecesOf 5 r_LN_piecesOf :: BIG) 1 22 0 0) {σ : ST} {res : Int32} (Rt : JR X (wfm ad cs) 0 0 (PI res σ) r_LN_piecesOf "piecesOf") {kb12 : Int32 → Int32 → Int32 → ST → Option (Int32)} (hk12 : ∀ (x2 : Int32) (x3 : Int32) (x4 : Int32), kb12 x2 x3 x4 σ = some res → J (wfm ad cs) X 5 0 0 σ 12 [(0, .ref (ad 2)), (2, .int x2), (3, .int x3), (4, .int x4)] []) (x2 : Int32) (x3 : Int32) (x4 : Int32) (hf : LN_piecesOf_b12 kb12 x2 x3 x4 σ = some res) : J (wfm ad cs) X 5 0 0 σ 12 [(0, .ref (ad 2)), (2, .int x2), (3, .int x3), (4, .int x4)] [] := by
  unfold LN_piecesOf_b12 at hf
  refine j_iload C 3 rfl d_LN_piecesOf_12 ?_
  refine j_iload_n C 1 rfl rfl d_LN_piecesOf_14 ?_
  refine j_bipush C (v := 12) (by decide) d_LN_piecesOf_15 ?_
  refine j_iadd C d_LN_piecesOf_17 ?_
  refine j_icmp_ge C d_LN_piecesOf_18 rfl (fun c18 => ?_) (fun c18 => ?_)
  · have hf := o_it c18 hf
    refine j_iload_n C 2 rfl rfl d_LN_piecesOf_39 ?_
    have hf := Option.some.inj hf
    subst hf
    exact j_iret C Rt (Nat.zero_le _) (Nat.zero_le _) d_LN_piecesOf_40 ⟨rfl, rfl⟩
  · have hf := o_if c18 hf
    refine j_aload_n C 0 rfl rfl d_LN_piecesOf_21 ?_
    refine j_iload C 3 rfl d_LN_piecesOf_22 ?_
    obtain ⟨r24, h24, hf⟩ := o_b1 hf
    refine j_callV (ci := 2) (Cn := "TollLedger$Lines") (T := T_LN) (N := 3) C [.int x4] [] (m_LN_isPiece _ _ _ _ _ x4 σ h24) (gdV wd_2_50 wd_2_51 wd_2_52 wd_1_3 wc_LN_isPiece) hy_LN_isPiece rfl ⟨2, rfl⟩ rfl rfl (by decide) (by decide) (by decide) (by decide) (Nat.le_of_ble_eq_true rfl) d_LN_piecesOf_24 (j_kI (r := r24) (σ1 := σ) ?_)
    refine j_if_eq C d_LN_piecesOf_27 rfl (fun c27 => ?_) (fun c27 => ?_)
    · have hf := o_it c27 hf
      refine j_iinc C 3 rfl (v := (x4 + 1)) (inc_p1 _) (by decide) (loc' := [(4, .int (x4 + 1)), (0, .ref (ad 2)), (2, .int x2), (3, .int x3)]) rfl d_LN_piecesOf_33 ?_
      refine j_goto C d_LN_piecesOf_36 rfl ?_
      refine j_sub [1, 2, 3, 0] rfl ?_
      exact hk12 x2 x3 (x4 + 1) hf
    · have hf := o_if c27 hf
      refine j_iinc C 2 rfl (v := (x3 + 1)) (inc_p1 _) (by decide) (loc' := [(3, .int (x3 + 1)), (0, .ref (ad 2)), (2, .int x2), (4, .int x4)]) rfl d_LN_piecesOf_30 ?_
      refine j_iinc C 3 rfl (v := (x4 + 1)) (inc_p1 _) (by decide) (loc' := [(4, .int (x4 + 1)), (3, .int (x3 + 1)), (0, .ref (ad 2)), (2, .int x2)]) rfl d_LN_piecesOf_33 ?_
      refine j_goto C d_LN_piecesOf_36 rfl ?_
      refine j_sub [2, 3, 1, 0] rfl ?_
      exact hk12 x2 (x3 + 1) (x4 + 1) hf
def LN_piecesOf_L12 : Nat → Int32 → Int32 → Int32 → ST → Option (Int32)
  | 0, _, _, _, _ => none
  | N + 1, x2, x3, x4, σ => LN_piecesOf_b12 (fun x2 x3 x4 σ => LN_piecesOf_L12 N x2 x3 x4 σ) x2 x3 x4 σ
theorem w_LN_piecesOf_L12 {X : JX} (C : JC X l D (ttf cs) eE b_LN_piecesOf "TollLedger$Lines" 5 (Cond.code y_LN_piecesOf b_LN_piecesOf 5 r_LN_piecesOf :: BIG) 1 22 0 0) {σ : ST} {res : Int32} (Rt : JR X (wfm ad cs) 0 0 (PI res σ) r_LN_piecesOf "piecesOf")  (N : Nat) (x2 : Int32) (x3 : Int32) (x4 : Int32) (hf : LN_piecesOf_L12 N x2 x3 x4 σ = some res) : J (wfm ad cs) X 5 0 0 σ 12 [(0, .ref (ad 2)), (2, .int x2), (3, .int x3), (4, .int x4)] [] := by
  induction N generalizing x2 x3 x4 with
  | zero => exact nomatch hf
  | succ N ih => exact w_LN_piecesOf_b12 C Rt  (fun x2 x3 x4 h => ih x2 x3 x4 h) x2 x3 x4 hf
def LN_piecesOf (x1 : Int32) (σ : ST) : Option (Int32) :=
  bd1 (LN_side x1 (0 : Int32) (1 : Int32)) fun r3 =>
  LN_piecesOf_L12 FU r3 (0 : Int32) r3 σ
set_option maxRecDepth 100000 in
set_option maxHeartbeats 4000000 in
theorem m_LN_piecesOf (l : Launch) (D : va_G) (ad : Nat → Nat) (cs : Nat → ClassId) (eE : Nat × Nat) (x1 : Int32) (σ : ST) {res : Int32} (hf : LN_piecesOf x1 σ = some res) : MS l y_LN_piecesOf (Cond.code y_LN_piecesOf b_LN_piecesOf 5 r_LN_piecesOf :: BIG) 1 22 0 0 (wfm ad cs) D (ttf cs) eE [.ref (ad 2), .int x1] σ (PI res σ) := by
  refine MS.of (cc := b_LN_piecesOf) (maxL := 5) (ret := r_LN_piecesOf) (by decide) rfl (Nat.le_of_ble_eq_true rfl) (loc := [(0, .ref (ad 2)), (1, .int x1)]) rfl (fun X C Rt => ?_)
  unfold LN_piecesOf at hf
  refine j_iload_n C 1 rfl rfl d_LN_piecesOf_0 ?_
  refine j_iconst C (v := 0) (by decide) d_LN_piecesOf_1 ?_
  refine j_iconst C (v := 1) (by decide) d_LN_piecesOf_2 ?_
  obtain ⟨r3, h3, hf⟩ := o_b1 hf
  refine j_callS C [.int x1, .int (0 : Int32), .int (1 : Int32)] [] (m_LN_side _ _ _ _ _ x1 (0 : Int32) (1 : Int32) σ h3) (gdS wd_2_47 wd_2_48 wd_1_3 wc_LN_side) hy_LN_side rfl rfl (by decide) (by decide) (by decide) (by decide) (Nat.le_of_ble_eq_true rfl) d_LN_piecesOf_3 (j_kI (r := r3) (σ1 := σ) ?_)
  refine j_istore_n C rfl (by decide) (loc' := [(2, .int r3), (0, .ref (ad 2)), (1, .int x1)]) rfl d_LN_piecesOf_6 ?_
  refine j_iconst C (v := 0) (by decide) d_LN_piecesOf_7 ?_
  refine j_istore_n C rfl (by decide) (loc' := [(3, .int (0 : Int32)), (2, .int r3), (0, .ref (ad 2)), (1, .int x1)]) rfl d_LN_piecesOf_8 ?_
  refine j_iload_n C 1 rfl rfl d_LN_piecesOf_9 ?_
  refine j_istore C (by decide) (loc' := [(4, .int r3), (3, .int (0 : Int32)), (2, .int r3), (0, .ref (ad 2)), (1, .int x1)]) rfl d_LN_piecesOf_10 ?_
  refine j_sub [3, 2, 1, 0] rfl ?_
  exact w_LN_piecesOf_L12 C Rt  FU r3 (0 : Int32) r3 hf
theorem d_OF_mostFor_0 : decode b_OF_mostFor 0 = .ok (.aload_n 0, 1) := by decide +kernel
theorem d_OF_mostFor_1 : decode b_OF_mostFor 1 = .ok (.getfield 7, 3) := by decide +kernel
theorem d_OF_mostFor_4 : decode b_OF_mostFor 4 = .ok (.ifCond .le 20, 3) := by decide +kernel
theorem d_OF_mostFor_7 : decode b_OF_mostFor 7 = .ok (.iload_n 1, 1) := by decide +kernel
theorem d_OF_mostFor_8 : decode b_OF_mostFor 8 = .ok (.i2l, 1) := by decide +kernel
theorem d_OF_mostFor_9 : decode b_OF_mostFor 9 = .ok (.aload_n 0, 1) := by decide +kernel
theorem d_OF_mostFor_10 : decode b_OF_mostFor 10 = .ok (.getfield 13, 3) := by decide +kernel
theorem d_OF_mostFor_13 : decode b_OF_mostFor 13 = .ok (.i2l, 1) := by decide +kernel
theorem d_OF_mostFor_14 : decode b_OF_mostFor 14 = .ok (.lmul, 1) := by decide +kernel
theorem d_OF_mostFor_15 : decode b_OF_mostFor 15 = .ok (.aload_n 0, 1) := by decide +kernel
theorem d_OF_mostFor_16 : decode b_OF_mostFor 16 = .ok (.getfield 7, 3) := by decide +kernel
theorem d_OF_mostFor_19 : decode b_OF_mostFor 19 = .ok (.i2l, 1) := by decide +kernel
theorem d_OF_mostFor_20 : decode b_OF_mostFor 20 = .ok (.ldiv, 1) := by decide +kernel
theorem d_OF_mostFor_21 : decode b_OF_mostFor 21 = .ok (.goto 4, 3) := by decide +kernel
theorem d_OF_mostFor_24 : decode b_OF_mostFor 24 = .ok (.lconst 0, 1) := by decide +kernel
theorem d_OF_mostFor_25 : decode b_OF_mostFor 25 = .ok (.lreturn, 1) := by decide +kernel
def OF_mostFor (x0 : Nat) (x1 : Int32) (σ : ST) : Option (Int64) :=
  if ¬ (x0 ∈ pL σ ∧ pK σ x0 = 2) then none else
  if (pP σ x0 3) ≤ 0 then (some (0 : Int64))
  else (if (pP σ x0 3).toInt64 = 0 then none else
  some ((x1.toInt64 * (pP σ x0 5).toInt64) / (pP σ x0 3).toInt64))
set_option maxRecDepth 100000 in
set_option maxHeartbeats 4000000 in
theorem m_OF_mostFor (l : Launch) (D : va_G) (ad : Nat → Nat) (cs : Nat → ClassId) (eE : Nat × Nat) (x0 : Nat) (x1 : Int32) (σ : ST) {res : Int64} (hf : OF_mostFor x0 x1 σ = some res) : MS l y_OF_mostFor (Cond.code y_OF_mostFor b_OF_mostFor 2 r_OF_mostFor :: BIG) 0 0 0 0 (wfm ad cs) D (ttf cs) eE [.ref x0, .int x1] σ (PL res σ) := by
  refine MS.of (cc := b_OF_mostFor) (maxL := 2) (ret := r_OF_mostFor) (by decide) rfl (Nat.le_of_ble_eq_true rfl) (loc := [(0, .ref x0), (1, .int x1)]) rfl (fun X C Rt => ?_)
  unfold OF_mostFor at hf
  refine j_aload_n C 0 rfl rfl d_OF_mostFor_0 ?_
  obtain ⟨g1, hf⟩ := o_gn hf
  refine gp_Offer_w C (Decidable.not_not.mp g1) (List.mem_cons_of_mem _ wd_3_22) d_OF_mostFor_1 ?_
  refine j_if_le C d_OF_mostFor_4 rfl (fun c4 => ?_) (fun c4 => ?_)
  · have hf := o_it c4 hf
    refine j_lconst C (v := 0) (by decide) d_OF_mostFor_24 ?_
    have hf := Option.some.inj hf
    subst hf
    exact j_lret C Rt (Nat.zero_le _) (Nat.zero_le _) d_OF_mostFor_25 ⟨rfl, rfl⟩
  · have hf := o_if c4 hf
    refine j_iload_n C 1 rfl rfl d_OF_mostFor_7 ?_
    refine j_i2l C d_OF_mostFor_8 ?_
    refine j_aload_n C 0 rfl rfl d_OF_mostFor_9 ?_
    refine gp_Offer_g C (Decidable.not_not.mp g1) (List.mem_cons_of_mem _ wd_3_29) d_OF_mostFor_10 ?_
    refine j_i2l C d_OF_mostFor_13 ?_
    refine j_lmul C d_OF_mostFor_14 ?_
    refine j_aload_n C 0 rfl rfl d_OF_mostFor_15 ?_
    refine gp_Offer_w C (Decidable.not_not.mp g1) (List.mem_cons_of_mem _ wd_3_22) d_OF_mostFor_16 ?_
    refine j_i2l C d_OF_mostFor_19 ?_
    obtain ⟨g20, hf⟩ := o_gn hf
    refine j_ldiv C g20 d_OF_mostFor_20 ?_
    refine j_goto C d_OF_mostFor_21 rfl ?_
    have hf := Option.some.inj hf
    subst hf
    exact j_lret C Rt (Nat.zero_le _) (Nat.zero_le _) d_OF_mostFor_25 ⟨rfl, rfl⟩
theorem d_OF_priceOf_0 : decode b_OF_priceOf 0 = .ok (.aload_n 0, 1) := by decide +kernel
theorem d_OF_priceOf_1 : decode b_OF_priceOf 1 = .ok (.getfield 13, 3) := by decide +kernel
theorem d_OF_priceOf_4 : decode b_OF_priceOf 4 = .ok (.ifCond .le 29, 3) := by decide +kernel
theorem d_OF_priceOf_7 : decode b_OF_priceOf 7 = .ok (.iload_n 1, 1) := by decide +kernel
theorem d_OF_priceOf_8 : decode b_OF_priceOf 8 = .ok (.i2l, 1) := by decide +kernel
theorem d_OF_priceOf_9 : decode b_OF_priceOf 9 = .ok (.aload_n 0, 1) := by decide +kernel
theorem d_OF_priceOf_10 : decode b_OF_priceOf 10 = .ok (.getfield 7, 3) := by decide +kernel
theorem d_OF_priceOf_13 : decode b_OF_priceOf 13 = .ok (.i2l, 1) := by decide +kernel
theorem d_OF_priceOf_14 : decode b_OF_priceOf 14 = .ok (.lmul, 1) := by decide +kernel
theorem d_OF_priceOf_15 : decode b_OF_priceOf 15 = .ok (.aload_n 0, 1) := by decide +kernel
theorem d_OF_priceOf_16 : decode b_OF_priceOf 16 = .ok (.getfield 13, 3) := by decide +kernel
theorem d_OF_priceOf_19 : decode b_OF_priceOf 19 = .ok (.i2l, 1) := by decide +kernel
theorem d_OF_priceOf_20 : decode b_OF_priceOf 20 = .ok (.ladd, 1) := by decide +kernel
theorem d_OF_priceOf_21 : decode b_OF_priceOf 21 = .ok (.lconst 1, 1) := by decide +kernel
theorem d_OF_priceOf_22 : decode b_OF_priceOf 22 = .ok (.lsub, 1) := by decide +kernel
theorem d_OF_priceOf_23 : decode b_OF_priceOf 23 = .ok (.aload_n 0, 1) := by decide +kernel
theorem d_OF_priceOf_24 : decode b_OF_priceOf 24 = .ok (.getfield 13, 3) := by decide +kernel
theorem d_OF_priceOf_27 : decode b_OF_priceOf 27 = .ok (.i2l, 1) := by decide +kernel
theorem d_OF_priceOf_28 : decode b_OF_priceOf 28 = .ok (.ldiv, 1) := by decide +kernel
theorem d_OF_priceOf_29 : decode b_OF_priceOf 29 = .ok (.l2i, 1) := by decide +kernel
theorem d_OF_priceOf_30 : decode b_OF_priceOf 30 = .ok (.goto 4, 3) := by decide +kernel
theorem d_OF_priceOf_33 : decode b_OF_priceOf 33 = .ok (.iconst 0, 1) := by decide +kernel
theorem d_OF_priceOf_34 : decode b_OF_priceOf 34 = .ok (.ireturn, 1) := by decide +kernel
def OF_priceOf (x0 : Nat) (x1 : Int32) (σ : ST) : Option (Int32) :=
  if ¬ (x0 ∈ pL σ ∧ pK σ x0 = 2) then none else
  if (pP σ x0 5) ≤ 0 then (some (0 : Int32))
  else (if (pP σ x0 5).toInt64 = 0 then none else
  some (((((x1.toInt64 * (pP σ x0 3).toInt64) + (pP σ x0 5).toInt64) - (1 : Int64)) / (pP σ x0 5).toInt64).toInt32))
set_option maxRecDepth 100000 in
set_option maxHeartbeats 4000000 in
theorem m_OF_priceOf (l : Launch) (D : va_G) (ad : Nat → Nat) (cs : Nat → ClassId) (eE : Nat × Nat) (x0 : Nat) (x1 : Int32) (σ : ST) {res : Int32} (hf : OF_priceOf x0 x1 σ = some res) : MS l y_OF_priceOf (Cond.code y_OF_priceOf b_OF_priceOf 2 r_OF_priceOf :: BIG) 0 0 0 0 (wfm ad cs) D (ttf cs) eE [.ref x0, .int x1] σ (PI res σ) := by
  refine MS.of (cc := b_OF_priceOf) (maxL := 2) (ret := r_OF_priceOf) (by decide) rfl (Nat.le_of_ble_eq_true rfl) (loc := [(0, .ref x0), (1, .int x1)]) rfl (fun X C Rt => ?_)
  unfold OF_priceOf at hf
  refine j_aload_n C 0 rfl rfl d_OF_priceOf_0 ?_
  obtain ⟨g1, hf⟩ := o_gn hf
  refine gp_Offer_g C (Decidable.not_not.mp g1) (List.mem_cons_of_mem _ wd_3_29) d_OF_priceOf_1 ?_
  refine j_if_le C d_OF_priceOf_4 rfl (fun c4 => ?_) (fun c4 => ?_)
  · have hf := o_it c4 hf
    refine j_iconst C (v := 0) (by decide) d_OF_priceOf_33 ?_
    have hf := Option.some.inj hf
    subst hf
    exact j_iret C Rt (Nat.zero_le _) (Nat.zero_le _) d_OF_priceOf_34 ⟨rfl, rfl⟩
  · have hf := o_if c4 hf
    refine j_iload_n C 1 rfl rfl d_OF_priceOf_7 ?_
    refine j_i2l C d_OF_priceOf_8 ?_
    refine j_aload_n C 0 rfl rfl d_OF_priceOf_9 ?_
    refine gp_Offer_w C (Decidable.not_not.mp g1) (List.mem_cons_of_mem _ wd_3_22) d_OF_priceOf_10 ?_
    refine j_i2l C d_OF_priceOf_13 ?_
    refine j_lmul C d_OF_priceOf_14 ?_
    refine j_aload_n C 0 rfl rfl d_OF_priceOf_15 ?_
    refine gp_Offer_g C (Decidable.not_not.mp g1) (List.mem_cons_of_mem _ wd_3_29) d_OF_priceOf_16 ?_
    refine j_i2l C d_OF_priceOf_19 ?_
    refine j_ladd C d_OF_priceOf_20 ?_
    refine j_lconst C (v := 1) (by decide) d_OF_priceOf_21 ?_
    refine j_lsub C d_OF_priceOf_22 ?_
    refine j_aload_n C 0 rfl rfl d_OF_priceOf_23 ?_
    refine gp_Offer_g C (Decidable.not_not.mp g1) (List.mem_cons_of_mem _ wd_3_29) d_OF_priceOf_24 ?_
    refine j_i2l C d_OF_priceOf_27 ?_
    obtain ⟨g28, hf⟩ := o_gn hf
    refine j_ldiv C g28 d_OF_priceOf_28 ?_
    refine j_l2i C d_OF_priceOf_29 ?_
    refine j_goto C d_OF_priceOf_30 rfl ?_
    have hf := Option.some.inj hf
    subst hf
    exact j_iret C Rt (Nat.zero_le _) (Nat.zero_le _) d_OF_priceOf_34 ⟨rfl, rfl⟩
theorem d_ST_piecesOf_0 : decode b_ST_piecesOf 0 = .ok (.aload_n 0, 1) := by decide +kernel
theorem d_ST_piecesOf_1 : decode b_ST_piecesOf 1 = .ok (.getfield 20, 3) := by decide +kernel
theorem d_ST_piecesOf_4 : decode b_ST_piecesOf 4 = .ok (.iload_n 1, 1) := by decide +kernel
theorem d_ST_piecesOf_5 : decode b_ST_piecesOf 5 = .ok (.invokevirtual 44, 3) := by decide +kernel
theorem d_ST_piecesOf_8 : decode b_ST_piecesOf 8 = .ok (.istore_n 2, 1) := by decide +kernel
theorem d_ST_piecesOf_9 : decode b_ST_piecesOf 9 = .ok (.iconst 0, 1) := by decide +kernel
theorem d_ST_piecesOf_10 : decode b_ST_piecesOf 10 = .ok (.istore_n 3, 1) := by decide +kernel
theorem d_ST_piecesOf_11 : decode b_ST_piecesOf 11 = .ok (.iload_n 3, 1) := by decide +kernel
theorem d_ST_piecesOf_12 : decode b_ST_piecesOf 12 = .ok (.aload_n 0, 1) := by decide +kernel
theorem d_ST_piecesOf_13 : decode b_ST_piecesOf 13 = .ok (.getfield 27, 3) := by decide +kernel
theorem d_ST_piecesOf_16 : decode b_ST_piecesOf 16 = .ok (.invokevirtual 48, 3) := by decide +kernel
theorem d_ST_piecesOf_19 : decode b_ST_piecesOf 19 = .ok (.if_icmp .ge 30, 3) := by decide +kernel
theorem d_ST_piecesOf_22 : decode b_ST_piecesOf 22 = .ok (.aload_n 0, 1) := by decide +kernel
theorem d_ST_piecesOf_23 : decode b_ST_piecesOf 23 = .ok (.getfield 27, 3) := by decide +kernel
theorem d_ST_piecesOf_26 : decode b_ST_piecesOf 26 = .ok (.iload_n 3, 1) := by decide +kernel
theorem d_ST_piecesOf_27 : decode b_ST_piecesOf 27 = .ok (.invokevirtual 52, 3) := by decide +kernel
theorem d_ST_piecesOf_30 : decode b_ST_piecesOf 30 = .ok (.checkcast 56, 3) := by decide +kernel
theorem d_ST_piecesOf_33 : decode b_ST_piecesOf 33 = .ok (.getfield 58, 3) := by decide +kernel
theorem d_ST_piecesOf_36 : decode b_ST_piecesOf 36 = .ok (.iload_n 1, 1) := by decide +kernel
theorem d_ST_piecesOf_37 : decode b_ST_piecesOf 37 = .ok (.if_icmp .ne 6, 3) := by decide +kernel
theorem d_ST_piecesOf_40 : decode b_ST_piecesOf 40 = .ok (.iinc 2 1, 3) := by decide +kernel
theorem d_ST_piecesOf_43 : decode b_ST_piecesOf 43 = .ok (.iinc 3 1, 3) := by decide +kernel
theorem d_ST_piecesOf_46 : decode b_ST_piecesOf 46 = .ok (.goto (-35), 3) := by decide +kernel
theorem d_ST_piecesOf_49 : decode b_ST_piecesOf 49 = .ok (.iconst 0, 1) := by decide +kernel
theorem d_ST_piecesOf_50 : decode b_ST_piecesOf 50 = .ok (.istore_n 3, 1) := by decide +kernel
theorem d_ST_piecesOf_51 : decode b_ST_piecesOf 51 = .ok (.iload_n 3, 1) := by decide +kernel
theorem d_ST_piecesOf_52 : decode b_ST_piecesOf 52 = .ok (.aload_n 0, 1) := by decide +kernel
theorem d_ST_piecesOf_53 : decode b_ST_piecesOf 53 = .ok (.getfield 31, 3) := by decide +kernel
theorem d_ST_piecesOf_56 : decode b_ST_piecesOf 56 = .ok (.invokevirtual 48, 3) := by decide +kernel
theorem d_ST_piecesOf_59 : decode b_ST_piecesOf 59 = .ok (.if_icmp .ge 30, 3) := by decide +kernel
theorem d_ST_piecesOf_62 : decode b_ST_piecesOf 62 = .ok (.aload_n 0, 1) := by decide +kernel
theorem d_ST_piecesOf_63 : decode b_ST_piecesOf 63 = .ok (.getfield 31, 3) := by decide +kernel
theorem d_ST_piecesOf_66 : decode b_ST_piecesOf 66 = .ok (.iload_n 3, 1) := by decide +kernel
theorem d_ST_piecesOf_67 : decode b_ST_piecesOf 67 = .ok (.invokevirtual 52, 3) := by decide +kernel
theorem d_ST_piecesOf_70 : decode b_ST_piecesOf 70 = .ok (.checkcast 61, 3) := by decide +kernel
theorem d_ST_piecesOf_73 : decode b_ST_piecesOf 73 = .ok (.getfield 63, 3) := by decide +kernel
theorem d_ST_piecesOf_76 : decode b_ST_piecesOf 76 = .ok (.iload_n 1, 1) := by decide +kernel
theorem d_ST_piecesOf_77 : decode b_ST_piecesOf 77 = .ok (.if_icmp .ne 6, 3) := by decide +kernel
theorem d_ST_piecesOf_80 : decode b_ST_piecesOf 80 = .ok (.iinc 2 1, 3) := by decide +kernel
theorem d_ST_piecesOf_83 : decode b_ST_piecesOf 83 = .ok (.iinc 3 1, 3) := by decide +kernel
theorem d_ST_piecesOf_86 : decode b_ST_piecesOf 86 = .ok (.goto (-35), 3) := by decide +kernel
theorem d_ST_piecesOf_89 : decode b_ST_piecesOf 89 = .ok (.iload_n 2, 1) := by decide +kernel
theorem d_ST_piecesOf_90 : decode b_ST_piecesOf 90 = .ok (.ireturn, 1) := by decide +kernel
def ST_piecesOf_b51 (kb51 : Int32 → Int32 → Int32 → ST → Option (Int32)) (x1 : Int32) (x2 : Int32) (x3 : Int32) (σ : ST) : Option (Int32) :=
  bd1 (AL_size_DL σ) fun r56 =>
  if r56 ≤ x3 then (some x2)
  else (bd1 (AL_get_DL x3 σ) fun r67 =>
  if ¬ (r67 ∈ pL σ ∧ pK σ r67 = 3) then none else
  if (pP σ r67 1) = x1 then (kb51 x1 (x2 + 1) (x3 + 1) σ)
  else (kb51 x1 x2 (x3 + 1) σ))
set_option maxRecDepth 100000 in
set_option maxHeartbeats 4000000 in
theorem w_ST_piecesOf_b51 {X : JX} (C : JC X l D (ttf cs) eE b_ST_piecesOf "TollLedger$State" 4 (Cond.code y_ST_piecesOf b_ST_piecesOf 4 r_ST_piecesOf :: BIG) 3 64 0 0) {σ : ST} {res : Int32} (Rt : JR X (wfm ad cs) 0 0 (PI res σ) r_ST_piecesOf "piecesOf") {kb51 : Int32 → Int32 → Int32 → ST → Option (Int32)} (hk51 : ∀ (x1 : Int32) (x2 : Int32) (x3 : Int32), kb51 x1 x2 x3 σ = some res → J (wfm ad cs) X 4 0 0 σ 51 [(0, .ref (ad 1)), (1, .int x1), (2, .int x2), (3, .int x3)] []) (x1 : Int32) (x2 : Int32) (x3 : Int32) (hf : ST_piecesOf_b51 kb51 x1 x2 x3 σ = some res) : J (wfm ad cs) X 4 0 0 σ 51 [(0, .ref (ad 1)), (1, .int x1), (2, .int x2), (3, .int x3)] [] := by
  unfold ST_piecesOf_b51 at hf
  refine j_iload_n C 3 rfl rfl d_ST_piecesOf_51 ?_
  refine j_aload_n C 0 rfl rfl d_ST_piecesOf_52 ?_
  refine g_ST_deposits C (List.mem_cons_of_mem _ wd_1_120) d_ST_piecesOf_53 ?_
  obtain ⟨r56, h56, hf⟩ := o_b1 hf
  refine j_callV (ci := 9) (Cn := "java/util/ArrayList") (T := T_AL) (N := 3) C [] [.int x3] (m_AL_size_DL _ _ _ _ _ σ h56) (gdV wd_2_54 wd_2_55 wd_2_56 wd_1_6 wc_AL_size) hy_AL_size rfl ⟨7, rfl⟩ rfl rfl (by decide) (by decide) (by decide) (by decide) (Nat.le_of_ble_eq_true rfl) d_ST_piecesOf_56 (j_kI (r := r56) (σ1 := σ) ?_)
  refine j_icmp_ge C d_ST_piecesOf_59 rfl (fun c59 => ?_) (fun c59 => ?_)
  · have hf := o_it c59 hf
    refine j_iload_n C 2 rfl rfl d_ST_piecesOf_89 ?_
    have hf := Option.some.inj hf
    subst hf
    exact j_iret C Rt (Nat.zero_le _) (Nat.zero_le _) d_ST_piecesOf_90 ⟨rfl, rfl⟩
  · have hf := o_if c59 hf
    refine j_aload_n C 0 rfl rfl d_ST_piecesOf_62 ?_
    refine g_ST_deposits C (List.mem_cons_of_mem _ wd_1_120) d_ST_piecesOf_63 ?_
    refine j_iload_n C 3 rfl rfl d_ST_piecesOf_66 ?_
    obtain ⟨r67, h67, hf⟩ := o_b1 hf
    refine j_callV (ci := 9) (Cn := "java/util/ArrayList") (T := T_AL) (N := 3) C [.int x3] [] (m_AL_get_DL _ _ _ _ _ x3 σ h67) (gdV wd_2_58 wd_2_59 wd_2_60 wd_1_6 wc_AL_get) hy_AL_get rfl ⟨7, rfl⟩ rfl rfl (by decide) (by decide) (by decide) (by decide) (Nat.le_of_ble_eq_true rfl) d_ST_piecesOf_67 (j_kA (r := r67) (σ1 := σ) ?_)
    obtain ⟨g70, hf⟩ := o_gn hf
    refine cc_Deposit C (Decidable.not_not.mp g70) (List.mem_cons_of_mem _ wd_2_73) d_ST_piecesOf_70 ?_
    refine gp_Deposit_from C (Decidable.not_not.mp g70) (List.mem_cons_of_mem _ wd_3_125) d_ST_piecesOf_73 ?_
    refine j_iload_n C 1 rfl rfl d_ST_piecesOf_76 ?_
    refine j_icmp_ne C d_ST_piecesOf_77 rfl (fun c77 => ?_) (fun c77 => ?_)
    · have hf := o_if c77 hf
      refine j_iinc C 3 rfl (v := (x3 + 1)) (inc_p1 _) (by decide) (loc' := [(3, .int (x3 + 1)), (0, .ref (ad 1)), (1, .int x1), (2, .int x2)]) rfl d_ST_piecesOf_83 ?_
      refine j_goto C d_ST_piecesOf_86 rfl ?_
      refine j_sub [1, 2, 3, 0] rfl ?_
      exact hk51 x1 x2 (x3 + 1) hf
    · have hf := o_it c77 hf
      refine j_iinc C 2 rfl (v := (x2 + 1)) (inc_p1 _) (by decide) (loc' := [(2, .int (x2 + 1)), (0, .ref (ad 1)), (1, .int x1), (3, .int x3)]) rfl d_ST_piecesOf_80 ?_
      refine j_iinc C 3 rfl (v := (x3 + 1)) (inc_p1 _) (by decide) (loc' := [(3, .int (x3 + 1)), (2, .int (x2 + 1)), (0, .ref (ad 1)), (1, .int x1)]) rfl d_ST_piecesOf_83 ?_
      refine j_goto C d_ST_piecesOf_86 rfl ?_
      refine j_sub [2, 3, 1, 0] rfl ?_
      exact hk51 x1 (x2 + 1) (x3 + 1) hf
def ST_piecesOf_L51 : Nat → Int32 → Int32 → Int32 → ST → Option (Int32)
  | 0, _, _, _, _ => none
  | N + 1, x1, x2, x3, σ => ST_piecesOf_b51 (fun x1 x2 x3 σ => ST_piecesOf_L51 N x1 x2 x3 σ) x1 x2 x3 σ
theorem w_ST_piecesOf_L51 {X : JX} (C : JC X l D (ttf cs) eE b_ST_piecesOf "TollLedger$State" 4 (Cond.code y_ST_piecesOf b_ST_piecesOf 4 r_ST_piecesOf :: BIG) 3 64 0 0) {σ : ST} {res : Int32} (Rt : JR X (wfm ad cs) 0 0 (PI res σ) r_ST_piecesOf "piecesOf")  (N : Nat) (x1 : Int32) (x2 : Int32) (x3 : Int32) (hf : ST_piecesOf_L51 N x1 x2 x3 σ = some res) : J (wfm ad cs) X 4 0 0 σ 51 [(0, .ref (ad 1)), (1, .int x1), (2, .int x2), (3, .int x3)] [] := by
  induction N generalizing x1 x2 x3 with
  | zero => exact nomatch hf
  | succ N ih => exact w_ST_piecesOf_b51 C Rt  (fun x1 x2 x3 h => ih x1 x2 x3 h) x1 x2 x3 hf
def ST_piecesOf_b11 (kb11 : Int32 → Int32 → Int32 → ST → Option (Int32)) (x1 : Int32) (x2 : Int32) (x3 : Int32) (σ : ST) : Option (Int32) :=
  bd1 (AL_size_OL σ) fun r16 =>
  if r16 ≤ x3 then (ST_piecesOf_L51 FU x1 x2 (0 : Int32) σ)
  else (bd1 (AL_get_OL x3 σ) fun r27 =>
  if ¬ (r27 ∈ pL σ ∧ pK σ r27 = 2) then none else
  if (pP σ r27 1) = x1 then (kb11 x1 (x2 + 1) (x3 + 1) σ)
  else (kb11 x1 x2 (x3 + 1) σ))
set_option maxRecDepth 100000 in
set_option maxHeartbeats 4000000 in
theorem w_ST_piecesOf_b11 {X : JX} (C : JC X l D (ttf cs) eE b_ST_piecesOf "TollLedger$State" 4 (Cond.code y_ST_piecesOf b_ST_piecesOf 4 r_ST_piecesOf :: BIG) 3 64 0 0) {σ : ST} {res : Int32} (Rt : JR X (wfm ad cs) 0 0 (PI res σ) r_ST_piecesOf "piecesOf") {kb11 : Int32 → Int32 → Int32 → ST → Option (Int32)} (hk11 : ∀ (x1 : Int32) (x2 : Int32) (x3 : Int32), kb11 x1 x2 x3 σ = some res → J (wfm ad cs) X 4 0 0 σ 11 [(0, .ref (ad 1)), (1, .int x1), (2, .int x2), (3, .int x3)] []) (x1 : Int32) (x2 : Int32) (x3 : Int32) (hf : ST_piecesOf_b11 kb11 x1 x2 x3 σ = some res) : J (wfm ad cs) X 4 0 0 σ 11 [(0, .ref (ad 1)), (1, .int x1), (2, .int x2), (3, .int x3)] [] := by
  unfold ST_piecesOf_b11 at hf
  refine j_iload_n C 3 rfl rfl d_ST_piecesOf_11 ?_
  refine j_aload_n C 0 rfl rfl d_ST_piecesOf_12 ?_
  refine g_ST_offers C (List.mem_cons_of_mem _ wd_1_116) d_ST_piecesOf_13 ?_
  obtain ⟨r16, h16, hf⟩ := o_b1 hf
  refine j_callV (ci := 9) (Cn := "java/util/ArrayList") (T := T_AL) (N := 3) C [] [.int x3] (m_AL_size_OL _ _ _ _ _ σ h16) (gdV wd_2_54 wd_2_55 wd_2_56 wd_1_6 wc_AL_size) hy_AL_size rfl ⟨6, rfl⟩ rfl rfl (by decide) (by decide) (by decide) (by decide) (Nat.le_of_ble_eq_true rfl) d_ST_piecesOf_16 (j_kI (r := r16) (σ1 := σ) ?_)
  refine j_icmp_ge C d_ST_piecesOf_19 rfl (fun c19 => ?_) (fun c19 => ?_)
  · have hf := o_it c19 hf
    refine j_iconst C (v := 0) (by decide) d_ST_piecesOf_49 ?_
    refine j_istore_n C rfl (by decide) (loc' := [(3, .int (0 : Int32)), (0, .ref (ad 1)), (1, .int x1), (2, .int x2)]) rfl d_ST_piecesOf_50 ?_
    refine j_sub [1, 2, 3, 0] rfl ?_
    exact w_ST_piecesOf_L51 C Rt  FU x1 x2 (0 : Int32) hf
  · have hf := o_if c19 hf
    refine j_aload_n C 0 rfl rfl d_ST_piecesOf_22 ?_
    refine g_ST_offers C (List.mem_cons_of_mem _ wd_1_116) d_ST_piecesOf_23 ?_
    refine j_iload_n C 3 rfl rfl d_ST_piecesOf_26 ?_
    obtain ⟨r27, h27, hf⟩ := o_b1 hf
    refine j_callV (ci := 9) (Cn := "java/util/ArrayList") (T := T_AL) (N := 3) C [.int x3] [] (m_AL_get_OL _ _ _ _ _ x3 σ h27) (gdV wd_2_58 wd_2_59 wd_2_60 wd_1_6 wc_AL_get) hy_AL_get rfl ⟨6, rfl⟩ rfl rfl (by decide) (by decide) (by decide) (by decide) (Nat.le_of_ble_eq_true rfl) d_ST_piecesOf_27 (j_kA (r := r27) (σ1 := σ) ?_)
    obtain ⟨g30, hf⟩ := o_gn hf
    refine cc_Offer C (Decidable.not_not.mp g30) (List.mem_cons_of_mem _ wd_2_72) d_ST_piecesOf_30 ?_
    refine gp_Offer_owner C (Decidable.not_not.mp g30) (List.mem_cons_of_mem _ wd_3_14) d_ST_piecesOf_33 ?_
    refine j_iload_n C 1 rfl rfl d_ST_piecesOf_36 ?_
    refine j_icmp_ne C d_ST_piecesOf_37 rfl (fun c37 => ?_) (fun c37 => ?_)
    · have hf := o_if c37 hf
      refine j_iinc C 3 rfl (v := (x3 + 1)) (inc_p1 _) (by decide) (loc' := [(3, .int (x3 + 1)), (0, .ref (ad 1)), (1, .int x1), (2, .int x2)]) rfl d_ST_piecesOf_43 ?_
      refine j_goto C d_ST_piecesOf_46 rfl ?_
      refine j_sub [1, 2, 3, 0] rfl ?_
      exact hk11 x1 x2 (x3 + 1) hf
    · have hf := o_it c37 hf
      refine j_iinc C 2 rfl (v := (x2 + 1)) (inc_p1 _) (by decide) (loc' := [(2, .int (x2 + 1)), (0, .ref (ad 1)), (1, .int x1), (3, .int x3)]) rfl d_ST_piecesOf_40 ?_
      refine j_iinc C 3 rfl (v := (x3 + 1)) (inc_p1 _) (by decide) (loc' := [(3, .int (x3 + 1)), (2, .int (x2 + 1)), (0, .ref (ad 1)), (1, .int x1)]) rfl d_ST_piecesOf_43 ?_
      refine j_goto C d_ST_piecesOf_46 rfl ?_
      refine j_sub [2, 3, 1, 0] rfl ?_
      exact hk11 x1 (x2 + 1) (x3 + 1) hf
def ST_piecesOf_L11 : Nat → Int32 → Int32 → Int32 → ST → Option (Int32)
  | 0, _, _, _, _ => none
  | N + 1, x1, x2, x3, σ => ST_piecesOf_b11 (fun x1 x2 x3 σ => ST_piecesOf_L11 N x1 x2 x3 σ) x1 x2 x3 σ
theorem w_ST_piecesOf_L11 {X : JX} (C : JC X l D (ttf cs) eE b_ST_piecesOf "TollLedger$State" 4 (Cond.code y_ST_piecesOf b_ST_piecesOf 4 r_ST_piecesOf :: BIG) 3 64 0 0) {σ : ST} {res : Int32} (Rt : JR X (wfm ad cs) 0 0 (PI res σ) r_ST_piecesOf "piecesOf")  (N : Nat) (x1 : Int32) (x2 : Int32) (x3 : Int32) (hf : ST_piecesOf_L11 N x1 x2 x3 σ = some res) : J (wfm ad cs) X 4 0 0 σ 11 [(0, .ref (ad 1)), (1, .int x1), (2, .int x2), (3, .int x3)] [] := by
  induction N generalizing x1 x2 x3 with
  | zero => exact nomatch hf
  | succ N ih => exact w_ST_piecesOf_b11 C Rt  (fun x1 x2 x3 h => ih x1 x2 x3 h) x1 x2 x3 hf
def ST_piecesOf (x1 : Int32) (σ : ST) : Option (Int32) :=
  bd1 (LN_piecesOf x1 σ) fun r5 =>
  ST_piecesOf_L11 FU x1 r5 (0 : Int32) σ
set_option maxRecDepth 100000 in
set_option maxHeartbeats 4000000 in
theorem m_ST_piecesOf (l : Launch) (D : va_G) (ad : Nat → Nat) (cs : Nat → ClassId) (eE : Nat × Nat) (x1 : Int32) (σ : ST) {res : Int32} (hf : ST_piecesOf x1 σ = some res) : MS l y_ST_piecesOf (Cond.code y_ST_piecesOf b_ST_piecesOf 4 r_ST_piecesOf :: BIG) 3 64 0 0 (wfm ad cs) D (ttf cs) eE [.ref (ad 1), .int x1] σ (PI res σ) := by
  refine MS.of (cc := b_ST_piecesOf) (maxL := 4) (ret := r_ST_piecesOf) (by decide) rfl (Nat.le_of_ble_eq_true rfl) (loc := [(0, .ref (ad 1)), (1, .int x1)]) rfl (fun X C Rt => ?_)
  unfold ST_piecesOf at hf
  refine j_aload_n C 0 rfl rfl d_ST_piecesOf_0 ?_
  refine g_ST_lines C (List.mem_cons_of_mem _ wd_1_113) d_ST_piecesOf_1 ?_
  refine j_iload_n C 1 rfl rfl d_ST_piecesOf_4 ?_
  obtain ⟨r5, h5, hf⟩ := o_b1 hf
  refine j_callV (ci := 2) (Cn := "TollLedger$Lines") (T := T_LN) (N := 3) C [.int x1] [] (m_LN_piecesOf _ _ _ _ _ x1 σ h5) (gdV wd_2_43 wd_2_44 wd_2_45 wd_1_3 wc_LN_piecesOf) hy_LN_piecesOf rfl ⟨2, rfl⟩ rfl rfl (by decide) (by decide) (by decide) (by decide) (Nat.le_of_ble_eq_true rfl) d_ST_piecesOf_5 (j_kI (r := r5) (σ1 := σ) ?_)
  refine j_istore_n C rfl (by decide) (loc' := [(2, .int r5), (0, .ref (ad 1)), (1, .int x1)]) rfl d_ST_piecesOf_8 ?_
  refine j_iconst C (v := 0) (by decide) d_ST_piecesOf_9 ?_
  refine j_istore_n C rfl (by decide) (loc' := [(3, .int (0 : Int32)), (2, .int r5), (0, .ref (ad 1)), (1, .int x1)]) rfl d_ST_piecesOf_10 ?_
  refine j_sub [2, 3, 1, 0] rfl ?_
  exact w_ST_piecesOf_L11 C Rt  FU x1 r5 (0 : Int32) hf
theorem d_ST_reserveOf_0 : decode b_ST_reserveOf 0 = .ok (.bipush 100, 2) := by decide +kernel
theorem d_ST_reserveOf_2 : decode b_ST_reserveOf 2 = .ok (.bipush 20, 2) := by decide +kernel
theorem d_ST_reserveOf_4 : decode b_ST_reserveOf 4 = .ok (.aload_n 0, 1) := by decide +kernel
theorem d_ST_reserveOf_5 : decode b_ST_reserveOf 5 = .ok (.iload_n 1, 1) := by decide +kernel
theorem d_ST_reserveOf_6 : decode b_ST_reserveOf 6 = .ok (.invokevirtual 66, 3) := by decide +kernel
theorem d_ST_reserveOf_9 : decode b_ST_reserveOf 9 = .ok (.imul, 1) := by decide +kernel
theorem d_ST_reserveOf_10 : decode b_ST_reserveOf 10 = .ok (.iadd, 1) := by decide +kernel
theorem d_ST_reserveOf_11 : decode b_ST_reserveOf 11 = .ok (.ireturn, 1) := by decide +kernel
def ST_reserveOf (x1 : Int32) (σ : ST) : Option (Int32) :=
  bd1 (ST_piecesOf x1 σ) fun r6 =>
  some ((100 : Int32) + ((20 : Int32) * r6))
set_option maxRecDepth 100000 in
set_option maxHeartbeats 4000000 in
theorem m_ST_reserveOf (l : Launch) (D : va_G) (ad : Nat → Nat) (cs : Nat → ClassId) (eE : Nat × Nat) (x1 : Int32) (σ : ST) {res : Int32} (hf : ST_reserveOf x1 σ = some res) : MS l y_ST_reserveOf (Cond.code y_ST_reserveOf b_ST_reserveOf 2 r_ST_reserveOf :: BIG) 4 87 0 0 (wfm ad cs) D (ttf cs) eE [.ref (ad 1), .int x1] σ (PI res σ) := by
  refine MS.of (cc := b_ST_reserveOf) (maxL := 2) (ret := r_ST_reserveOf) (by decide) rfl (Nat.le_of_ble_eq_true rfl) (loc := [(0, .ref (ad 1)), (1, .int x1)]) rfl (fun X C Rt => ?_)
  unfold ST_reserveOf at hf
  refine j_bipush C (v := 100) (by decide) d_ST_reserveOf_0 ?_
  refine j_bipush C (v := 20) (by decide) d_ST_reserveOf_2 ?_
  refine j_aload_n C 0 rfl rfl d_ST_reserveOf_4 ?_
  refine j_iload_n C 1 rfl rfl d_ST_reserveOf_5 ?_
  obtain ⟨r6, h6, hf⟩ := o_b1 hf
  refine j_callV (ci := 1) (Cn := "TollLedger$State") (T := T_ST) (N := 6) C [.int x1] [.int (20 : Int32), .int (100 : Int32)] (m_ST_piecesOf _ _ _ _ _ x1 σ h6) (gdV wd_2_39 wd_2_40 wd_2_41 wd_1_2 wc_ST_piecesOf) hy_ST_piecesOf rfl ⟨1, rfl⟩ rfl rfl (by decide) (by decide) (by decide) (by decide) (Nat.le_of_ble_eq_true rfl) d_ST_reserveOf_6 (j_kI (r := r6) (σ1 := σ) ?_)
  refine j_imul C d_ST_reserveOf_9 ?_
  refine j_iadd C d_ST_reserveOf_10 ?_
  have hf := Option.some.inj hf
  subst hf
  exact j_iret C Rt (Nat.zero_le _) (Nat.zero_le _) d_ST_reserveOf_11 ⟨rfl, rfl⟩
theorem d_ST_affordsOneMore_0 : decode b_ST_affordsOneMore 0 = .ok (.aload_n 0, 1) := by decide +kernel
theorem d_ST_affordsOneMore_1 : decode b_ST_affordsOneMore 1 = .ok (.getfield 11, 3) := by decide +kernel
theorem d_ST_affordsOneMore_4 : decode b_ST_affordsOneMore 4 = .ok (.iload_n 1, 1) := by decide +kernel
theorem d_ST_affordsOneMore_5 : decode b_ST_affordsOneMore 5 = .ok (.aaload, 1) := by decide +kernel
theorem d_ST_affordsOneMore_6 : decode b_ST_affordsOneMore 6 = .ok (.getfield 40, 3) := by decide +kernel
theorem d_ST_affordsOneMore_9 : decode b_ST_affordsOneMore 9 = .ok (.iload_n 2, 1) := by decide +kernel
theorem d_ST_affordsOneMore_10 : decode b_ST_affordsOneMore 10 = .ok (.isub, 1) := by decide +kernel
theorem d_ST_affordsOneMore_11 : decode b_ST_affordsOneMore 11 = .ok (.aload_n 0, 1) := by decide +kernel
theorem d_ST_affordsOneMore_12 : decode b_ST_affordsOneMore 12 = .ok (.iload_n 1, 1) := by decide +kernel
theorem d_ST_affordsOneMore_13 : decode b_ST_affordsOneMore 13 = .ok (.invokevirtual 67, 3) := by decide +kernel
theorem d_ST_affordsOneMore_16 : decode b_ST_affordsOneMore 16 = .ok (.bipush 20, 2) := by decide +kernel
theorem d_ST_affordsOneMore_18 : decode b_ST_affordsOneMore 18 = .ok (.iadd, 1) := by decide +kernel
theorem d_ST_affordsOneMore_19 : decode b_ST_affordsOneMore 19 = .ok (.if_icmp .lt 7, 3) := by decide +kernel
theorem d_ST_affordsOneMore_22 : decode b_ST_affordsOneMore 22 = .ok (.iconst 1, 1) := by decide +kernel
theorem d_ST_affordsOneMore_23 : decode b_ST_affordsOneMore 23 = .ok (.goto 4, 3) := by decide +kernel
theorem d_ST_affordsOneMore_26 : decode b_ST_affordsOneMore 26 = .ok (.iconst 0, 1) := by decide +kernel
theorem d_ST_affordsOneMore_27 : decode b_ST_affordsOneMore 27 = .ok (.ireturn, 1) := by decide +kernel
def ST_affordsOneMore (x1 : Int32) (x2 : Int32) (σ : ST) : Option (Int32) :=
  if x1 < 0 ∨ 6 ≤ x1.toNatClampNeg then none else
  bd1 (gR σ 0 x1.toNatClampNeg) fun q5 =>
  if ¬ (q5 ∈ pL σ ∧ pK σ q5 = 1) then none else
  bd1 (ST_reserveOf x1 σ) fun r13 =>
  if ((pP σ q5 1) - x2) < (r13 + (20 : Int32)) then (some (0 : Int32))
  else (some (1 : Int32))
set_option maxRecDepth 100000 in
set_option maxHeartbeats 4000000 in
theorem m_ST_affordsOneMore (l : Launch) (D : va_G) (ad : Nat → Nat) (cs : Nat → ClassId) (eE : Nat × Nat) (x1 : Int32) (x2 : Int32) (σ : ST) {res : Int32} (hf : ST_affordsOneMore x1 x2 σ = some res) : MS l y_ST_affordsOneMore (Cond.code y_ST_affordsOneMore b_ST_affordsOneMore 3 r_ST_affordsOneMore :: BIG) 5 108 0 0 (wfm ad cs) D (ttf cs) eE [.ref (ad 1), .int x1, .int x2] σ (PI res σ) := by
  refine MS.of (cc := b_ST_affordsOneMore) (maxL := 3) (ret := r_ST_affordsOneMore) (by decide) rfl (Nat.le_of_ble_eq_true rfl) (loc := [(0, .ref (ad 1)), (1, .int x1), (2, .int x2)]) rfl (fun X C Rt => ?_)
  unfold ST_affordsOneMore at hf
  refine j_aload_n C 0 rfl rfl d_ST_affordsOneMore_0 ?_
  refine g_ST_accounts C (List.mem_cons_of_mem _ wd_1_110) d_ST_affordsOneMore_1 ?_
  refine j_iload_n C 1 rfl rfl d_ST_affordsOneMore_4 ?_
  obtain ⟨g5, hf⟩ := o_gn hf
  obtain ⟨q5, hq5, hf⟩ := o_b1 hf
  refine la_acc C g5 hq5 d_ST_affordsOneMore_5 ?_
  obtain ⟨g6, hf⟩ := o_gn hf
  refine gp_Account_coins C (Decidable.not_not.mp g6) (List.mem_cons_of_mem _ wd_1_92) d_ST_affordsOneMore_6 ?_
  refine j_iload_n C 2 rfl rfl d_ST_affordsOneMore_9 ?_
  refine j_isub C d_ST_affordsOneMore_10 ?_
  refine j_aload_n C 0 rfl rfl d_ST_affordsOneMore_11 ?_
  refine j_iload_n C 1 rfl rfl d_ST_affordsOneMore_12 ?_
  obtain ⟨r13, h13, hf⟩ := o_b1 hf
  refine j_callV (ci := 1) (Cn := "TollLedger$State") (T := T_ST) (N := 6) C [.int x1] [.int ((pP σ q5 1) - x2)] (m_ST_reserveOf _ _ _ _ _ x1 σ h13) (gdV wd_2_35 wd_2_37 wp_2 wd_1_2 wc_ST_reserveOf) hy_ST_reserveOf rfl ⟨1, rfl⟩ rfl rfl (by decide) (by decide) (by decide) (by decide) (Nat.le_of_ble_eq_true rfl) d_ST_affordsOneMore_13 (j_kI (r := r13) (σ1 := σ) ?_)
  refine j_bipush C (v := 20) (by decide) d_ST_affordsOneMore_16 ?_
  refine j_iadd C d_ST_affordsOneMore_18 ?_
  refine j_icmp_lt C d_ST_affordsOneMore_19 rfl (fun c19 => ?_) (fun c19 => ?_)
  · have hf := o_it c19 hf
    refine j_iconst C (v := 0) (by decide) d_ST_affordsOneMore_26 ?_
    have hf := Option.some.inj hf
    subst hf
    exact j_zret C Rt (by decide) (Nat.zero_le _) (Nat.zero_le _) d_ST_affordsOneMore_27 ⟨rfl, rfl⟩
  · have hf := o_if c19 hf
    refine j_iconst C (v := 1) (by decide) d_ST_affordsOneMore_22 ?_
    refine j_goto C d_ST_affordsOneMore_23 rfl ?_
    have hf := Option.some.inj hf
    subst hf
    exact j_zret C Rt (by decide) (Nat.zero_le _) (Nat.zero_le _) d_ST_affordsOneMore_27 ⟨rfl, rfl⟩
theorem d_TL_issuerOf_0 : decode b_TL_issuerOf 0 = .ok (.iload_n 0, 1) := by decide +kernel
theorem d_TL_issuerOf_1 : decode b_TL_issuerOf 1 = .ok (.iconst 1, 1) := by decide +kernel
theorem d_TL_issuerOf_2 : decode b_TL_issuerOf 2 = .ok (.isub, 1) := by decide +kernel
theorem d_TL_issuerOf_3 : decode b_TL_issuerOf 3 = .ok (.bipush 6, 2) := by decide +kernel
theorem d_TL_issuerOf_5 : decode b_TL_issuerOf 5 = .ok (.irem, 1) := by decide +kernel
theorem d_TL_issuerOf_6 : decode b_TL_issuerOf 6 = .ok (.ireturn, 1) := by decide +kernel
def TL_issuerOf (x0 : Int32) : Option (Int32) :=
  some (imod (x0 - (1 : Int32)) (6 : Int32))
set_option maxRecDepth 100000 in
set_option maxHeartbeats 4000000 in
theorem m_TL_issuerOf (l : Launch) (D : va_G) (ad : Nat → Nat) (cs : Nat → ClassId) (eE : Nat × Nat) (x0 : Int32) (σ : ST) {res : Int32} (hf : TL_issuerOf x0 = some res) : MS l y_TL_issuerOf (Cond.code y_TL_issuerOf b_TL_issuerOf 1 r_TL_issuerOf :: BIG) 0 0 0 0 (wfm ad cs) D (ttf cs) eE [.int x0] σ (PI res σ) := by
  refine MS.of (cc := b_TL_issuerOf) (maxL := 1) (ret := r_TL_issuerOf) (by decide) rfl (Nat.le_of_ble_eq_true rfl) (loc := [(0, .int x0)]) rfl (fun X C Rt => ?_)
  unfold TL_issuerOf at hf
  refine j_iload_n C 0 rfl rfl d_TL_issuerOf_0 ?_
  refine j_iconst C (v := 1) (by decide) d_TL_issuerOf_1 ?_
  refine j_isub C d_TL_issuerOf_2 ?_
  refine j_bipush C (v := 6) (by decide) d_TL_issuerOf_3 ?_
  refine j_irem C (by decide) d_TL_issuerOf_5 ?_
  have hf := Option.some.inj hf
  subst hf
  exact j_iret C Rt (Nat.zero_le _) (Nat.zero_le _) d_TL_issuerOf_6 ⟨rfl, rfl⟩
theorem d_TL_currencyOf_0 : decode b_TL_currencyOf 0 = .ok (.iconst 1, 1) := by decide +kernel
theorem d_TL_currencyOf_1 : decode b_TL_currencyOf 1 = .ok (.iload_n 0, 1) := by decide +kernel
theorem d_TL_currencyOf_2 : decode b_TL_currencyOf 2 = .ok (.iconst 1, 1) := by decide +kernel
theorem d_TL_currencyOf_3 : decode b_TL_currencyOf 3 = .ok (.isub, 1) := by decide +kernel
theorem d_TL_currencyOf_4 : decode b_TL_currencyOf 4 = .ok (.bipush 6, 2) := by decide +kernel
theorem d_TL_currencyOf_6 : decode b_TL_currencyOf 6 = .ok (.idiv, 1) := by decide +kernel
theorem d_TL_currencyOf_7 : decode b_TL_currencyOf 7 = .ok (.iadd, 1) := by decide +kernel
theorem d_TL_currencyOf_8 : decode b_TL_currencyOf 8 = .ok (.ireturn, 1) := by decide +kernel
def TL_currencyOf (x0 : Int32) : Option (Int32) :=
  some ((1 : Int32) + ((x0 - (1 : Int32)) / (6 : Int32)))
set_option maxRecDepth 100000 in
set_option maxHeartbeats 4000000 in
theorem m_TL_currencyOf (l : Launch) (D : va_G) (ad : Nat → Nat) (cs : Nat → ClassId) (eE : Nat × Nat) (x0 : Int32) (σ : ST) {res : Int32} (hf : TL_currencyOf x0 = some res) : MS l y_TL_currencyOf (Cond.code y_TL_currencyOf b_TL_currencyOf 1 r_TL_currencyOf :: BIG) 0 0 0 0 (wfm ad cs) D (ttf cs) eE [.int x0] σ (PI res σ) := by
  refine MS.of (cc := b_TL_currencyOf) (maxL := 1) (ret := r_TL_currencyOf) (by decide) rfl (Nat.le_of_ble_eq_true rfl) (loc := [(0, .int x0)]) rfl (fun X C Rt => ?_)
  unfold TL_currencyOf at hf
  refine j_iconst C (v := 1) (by decide) d_TL_currencyOf_0 ?_
  refine j_iload_n C 0 rfl rfl d_TL_currencyOf_1 ?_
  refine j_iconst C (v := 1) (by decide) d_TL_currencyOf_2 ?_
  refine j_isub C d_TL_currencyOf_3 ?_
  refine j_bipush C (v := 6) (by decide) d_TL_currencyOf_4 ?_
  refine j_idiv C (by decide) d_TL_currencyOf_6 ?_
  refine j_iadd C d_TL_currencyOf_7 ?_
  have hf := Option.some.inj hf
  subst hf
  exact j_iret C Rt (Nat.zero_le _) (Nat.zero_le _) d_TL_currencyOf_8 ⟨rfl, rfl⟩
theorem d_ST_change_0 : decode b_ST_change 0 = .ok (.iload_n 2, 1) := by decide +kernel
theorem d_ST_change_1 : decode b_ST_change 1 = .ok (.ifCond .ne 21, 3) := by decide +kernel
theorem d_ST_change_4 : decode b_ST_change 4 = .ok (.aload_n 0, 1) := by decide +kernel
theorem d_ST_change_5 : decode b_ST_change 5 = .ok (.getfield 11, 3) := by decide +kernel
theorem d_ST_change_8 : decode b_ST_change 8 = .ok (.iload_n 1, 1) := by decide +kernel
theorem d_ST_change_9 : decode b_ST_change 9 = .ok (.aaload, 1) := by decide +kernel
theorem d_ST_change_10 : decode b_ST_change 10 = .ok (.dup, 1) := by decide +kernel
theorem d_ST_change_11 : decode b_ST_change 11 = .ok (.getfield 40, 3) := by decide +kernel
theorem d_ST_change_14 : decode b_ST_change 14 = .ok (.iload_n 3, 1) := by decide +kernel
theorem d_ST_change_15 : decode b_ST_change 15 = .ok (.iadd, 1) := by decide +kernel
theorem d_ST_change_16 : decode b_ST_change 16 = .ok (.putfield 40, 3) := by decide +kernel
theorem d_ST_change_19 : decode b_ST_change 19 = .ok (.goto 28, 3) := by decide +kernel
theorem d_ST_change_22 : decode b_ST_change 22 = .ok (.iload_n 1, 1) := by decide +kernel
theorem d_ST_change_23 : decode b_ST_change 23 = .ok (.iload_n 2, 1) := by decide +kernel
theorem d_ST_change_24 : decode b_ST_change 24 = .ok (.invokestatic 76, 3) := by decide +kernel
theorem d_ST_change_27 : decode b_ST_change 27 = .ok (.if_icmp .eq 20, 3) := by decide +kernel
theorem d_ST_change_30 : decode b_ST_change 30 = .ok (.aload_n 0, 1) := by decide +kernel
theorem d_ST_change_31 : decode b_ST_change 31 = .ok (.getfield 20, 3) := by decide +kernel
theorem d_ST_change_34 : decode b_ST_change 34 = .ok (.iload_n 1, 1) := by decide +kernel
theorem d_ST_change_35 : decode b_ST_change 35 = .ok (.iload_n 2, 1) := by decide +kernel
theorem d_ST_change_36 : decode b_ST_change 36 = .ok (.invokestatic 76, 3) := by decide +kernel
theorem d_ST_change_39 : decode b_ST_change 39 = .ok (.iload_n 2, 1) := by decide +kernel
theorem d_ST_change_40 : decode b_ST_change 40 = .ok (.invokestatic 84, 3) := by decide +kernel
theorem d_ST_change_43 : decode b_ST_change 43 = .ok (.iload_n 3, 1) := by decide +kernel
theorem d_ST_change_44 : decode b_ST_change 44 = .ok (.invokevirtual 101, 3) := by decide +kernel
theorem d_ST_change_47 : decode b_ST_change 47 = .ok (.return_, 1) := by decide +kernel
def ST_change (x1 : Int32) (x2 : Int32) (x3 : Int32) (σ : ST) : Option (ST) :=
  if x2 = 0 then (if x1 < 0 ∨ 6 ≤ x1.toNatClampNeg then none else
  bd1 (gR σ 0 x1.toNatClampNeg) fun q9 =>
  if ¬ (q9 ∈ pL σ ∧ pK σ q9 = 1) then none else
  nmS (sP σ q9 1 ((pP σ q9 1) + x3)) fun σ16 =>
  some σ16)
  else (bd1 (TL_issuerOf x2) fun r24 =>
  if x1 = r24 then (some σ)
  else (bd1 (TL_issuerOf x2) fun r36 =>
  bd1 (TL_currencyOf x2) fun r40 =>
  bd1 (LN_grow x1 r36 r40 x3 σ) fun σ44 =>
  some σ44))
set_option maxRecDepth 100000 in
set_option maxHeartbeats 4000000 in
theorem m_ST_change (l : Launch) (D : va_G) (ad : Nat → Nat) (cs : Nat → ClassId) (eE : Nat × Nat) (x1 : Int32) (x2 : Int32) (x3 : Int32) (σ : ST) {res : ST} (hf : ST_change x1 x2 x3 σ = some res) : MS l y_ST_change (Cond.code y_ST_change b_ST_change 4 r_ST_change :: BIG) 2 46 0 0 (wfm ad cs) D (ttf cs) eE [.ref (ad 1), .int x1, .int x2, .int x3] σ (PV res) := by
  refine MS.of (cc := b_ST_change) (maxL := 4) (ret := r_ST_change) (by decide) rfl (Nat.le_of_ble_eq_true rfl) (loc := [(0, .ref (ad 1)), (1, .int x1), (2, .int x2), (3, .int x3)]) rfl (fun X C Rt => ?_)
  unfold ST_change at hf
  refine j_iload_n C 2 rfl rfl d_ST_change_0 ?_
  refine j_if_ne C d_ST_change_1 rfl (fun c1 => ?_) (fun c1 => ?_)
  · have hf := o_if c1 hf
    refine j_iload_n C 1 rfl rfl d_ST_change_22 ?_
    refine j_iload_n C 2 rfl rfl d_ST_change_23 ?_
    obtain ⟨r24, h24, hf⟩ := o_b1 hf
    refine j_callSN (host := "TollLedger") C [.int x2] [.int x1] (m_TL_issuerOf _ _ _ _ _ x2 σ h24) (gdN wc_TL_issuerOf) (by decide +kernel) (List.mem_cons_of_mem _ wd_1_1) (List.mem_cons_of_mem _ wd_2_78) hy_TL_issuerOf rfl rfl (by decide) (by decide) (by decide) (by decide) (Nat.le_of_ble_eq_true rfl) d_ST_change_24 (j_kI (r := r24) (σ1 := σ) ?_)
    refine j_icmp_eq C d_ST_change_27 rfl (fun c27 => ?_) (fun c27 => ?_)
    · have hf := o_it c27 hf
      have hf := Option.some.inj hf
      subst hf
      exact j_vret C Rt (Nat.zero_le _) (Nat.zero_le _) d_ST_change_47 ⟨rfl, rfl⟩
    · have hf := o_if c27 hf
      refine j_aload_n C 0 rfl rfl d_ST_change_30 ?_
      refine g_ST_lines C (List.mem_cons_of_mem _ wd_1_113) d_ST_change_31 ?_
      refine j_iload_n C 1 rfl rfl d_ST_change_34 ?_
      refine j_iload_n C 2 rfl rfl d_ST_change_35 ?_
      obtain ⟨r36, h36, hf⟩ := o_b1 hf
      refine j_callSN (host := "TollLedger") C [.int x2] [.int x1, .ref (ad 2)] (m_TL_issuerOf _ _ _ _ _ x2 σ h36) (gdN wc_TL_issuerOf) (by decide +kernel) (List.mem_cons_of_mem _ wd_1_1) (List.mem_cons_of_mem _ wd_2_78) hy_TL_issuerOf rfl rfl (by decide) (by decide) (by decide) (by decide) (Nat.le_of_ble_eq_true rfl) d_ST_change_36 (j_kI (r := r36) (σ1 := σ) ?_)
      refine j_iload_n C 2 rfl rfl d_ST_change_39 ?_
      obtain ⟨r40, h40, hf⟩ := o_b1 hf
      refine j_callSN (host := "TollLedger") C [.int x2] [.int r36, .int x1, .ref (ad 2)] (m_TL_currencyOf _ _ _ _ _ x2 σ h40) (gdN wc_TL_currencyOf) (by decide +kernel) (List.mem_cons_of_mem _ wd_1_1) (List.mem_cons_of_mem _ wd_2_82) hy_TL_currencyOf rfl rfl (by decide) (by decide) (by decide) (by decide) (Nat.le_of_ble_eq_true rfl) d_ST_change_40 (j_kI (r := r40) (σ1 := σ) ?_)
      refine j_iload_n C 3 rfl rfl d_ST_change_43 ?_
      obtain ⟨σ44, h44, hf⟩ := o_b1 hf
      refine j_callV (ci := 2) (Cn := "TollLedger$Lines") (T := T_LN) (N := 3) C [.int x1, .int r36, .int r40, .int x3] [] (m_LN_grow _ _ _ _ _ x1 r36 r40 x3 σ h44) (gdV wd_2_89 wd_2_90 wd_2_91 wd_1_3 wc_LN_grow) hy_LN_grow rfl ⟨2, rfl⟩ rfl rfl (by decide) (by decide) (by decide) (by decide) (Nat.le_of_ble_eq_true rfl) d_ST_change_44 (j_kV (σ1 := σ44) ?_)
      have hf := Option.some.inj hf
      subst hf
      exact j_vret C Rt (Nat.zero_le _) (Nat.zero_le _) d_ST_change_47 ⟨rfl, rfl⟩
  · have hf := o_it c1 hf
    refine j_aload_n C 0 rfl rfl d_ST_change_4 ?_
    refine g_ST_accounts C (List.mem_cons_of_mem _ wd_1_110) d_ST_change_5 ?_
    refine j_iload_n C 1 rfl rfl d_ST_change_8 ?_
    obtain ⟨g9, hf⟩ := o_gn hf
    obtain ⟨q9, hq9, hf⟩ := o_b1 hf
    refine la_acc C g9 hq9 d_ST_change_9 ?_
    refine j_dup C rfl d_ST_change_10 ?_
    obtain ⟨g11, hf⟩ := o_gn hf
    refine gp_Account_coins C (Decidable.not_not.mp g11) (List.mem_cons_of_mem _ wd_1_92) d_ST_change_11 ?_
    refine j_iload_n C 3 rfl rfl d_ST_change_14 ?_
    refine j_iadd C d_ST_change_15 ?_
    obtain ⟨σ16, eσ16, hf⟩ := o_nmS hf
    refine pp_Account_coins C (Decidable.not_not.mp g11) eσ16 (List.mem_cons_of_mem _ wd_1_92) d_ST_change_16 ?_
    refine j_goto C d_ST_change_19 rfl ?_
    have hf := Option.some.inj hf
    subst hf
    exact j_vret C Rt (Nat.zero_le _) (Nat.zero_le _) d_ST_change_47 ⟨rfl, rfl⟩
theorem d_ST_tollRate_0 : decode b_ST_tollRate 0 = .ok (.iload_n 1, 1) := by decide +kernel
theorem d_ST_tollRate_1 : decode b_ST_tollRate 1 = .ok (.ifCond .ne 5, 3) := by decide +kernel
theorem d_ST_tollRate_4 : decode b_ST_tollRate 4 = .ok (.iconst 0, 1) := by decide +kernel
theorem d_ST_tollRate_5 : decode b_ST_tollRate 5 = .ok (.ireturn, 1) := by decide +kernel
theorem d_ST_tollRate_6 : decode b_ST_tollRate 6 = .ok (.iload_n 1, 1) := by decide +kernel
theorem d_ST_tollRate_7 : decode b_ST_tollRate 7 = .ok (.invokestatic 76, 3) := by decide +kernel
theorem d_ST_tollRate_10 : decode b_ST_tollRate 10 = .ok (.istore 4, 2) := by decide +kernel
theorem d_ST_tollRate_12 : decode b_ST_tollRate 12 = .ok (.iload_n 2, 1) := by decide +kernel
theorem d_ST_tollRate_13 : decode b_ST_tollRate 13 = .ok (.iload 4, 2) := by decide +kernel
theorem d_ST_tollRate_15 : decode b_ST_tollRate 15 = .ok (.if_icmp .eq 9, 3) := by decide +kernel
theorem d_ST_tollRate_18 : decode b_ST_tollRate 18 = .ok (.iload_n 3, 1) := by decide +kernel
theorem d_ST_tollRate_19 : decode b_ST_tollRate 19 = .ok (.iload 4, 2) := by decide +kernel
theorem d_ST_tollRate_21 : decode b_ST_tollRate 21 = .ok (.if_icmp .ne 7, 3) := by decide +kernel
theorem d_ST_tollRate_24 : decode b_ST_tollRate 24 = .ok (.iconst 0, 1) := by decide +kernel
theorem d_ST_tollRate_25 : decode b_ST_tollRate 25 = .ok (.goto 13, 3) := by decide +kernel
theorem d_ST_tollRate_28 : decode b_ST_tollRate 28 = .ok (.aload_n 0, 1) := by decide +kernel
theorem d_ST_tollRate_29 : decode b_ST_tollRate 29 = .ok (.getfield 11, 3) := by decide +kernel
theorem d_ST_tollRate_32 : decode b_ST_tollRate 32 = .ok (.iload 4, 2) := by decide +kernel
theorem d_ST_tollRate_34 : decode b_ST_tollRate 34 = .ok (.aaload, 1) := by decide +kernel
theorem d_ST_tollRate_35 : decode b_ST_tollRate 35 = .ok (.getfield 91, 3) := by decide +kernel
theorem d_ST_tollRate_38 : decode b_ST_tollRate 38 = .ok (.ireturn, 1) := by decide +kernel
def ST_tollRate (x1 : Int32) (x2 : Int32) (x3 : Int32) (σ : ST) : Option (Int32) :=
  if x1 = 0 then (some (0 : Int32))
  else (bd1 (TL_issuerOf x1) fun r7 =>
  if x2 = r7 then (some (0 : Int32))
  else (if x3 = r7 then (some (0 : Int32))
  else (if r7 < 0 ∨ 6 ≤ r7.toNatClampNeg then none else
  bd1 (gR σ 0 r7.toNatClampNeg) fun q34 =>
  if ¬ (q34 ∈ pL σ ∧ pK σ q34 = 1) then none else
  some (pP σ q34 3))))
set_option maxRecDepth 100000 in
set_option maxHeartbeats 4000000 in
theorem m_ST_tollRate (l : Launch) (D : va_G) (ad : Nat → Nat) (cs : Nat → ClassId) (eE : Nat × Nat) (x1 : Int32) (x2 : Int32) (x3 : Int32) (σ : ST) {res : Int32} (hf : ST_tollRate x1 x2 x3 σ = some res) : MS l y_ST_tollRate (Cond.code y_ST_tollRate b_ST_tollRate 5 r_ST_tollRate :: BIG) 1 20 0 0 (wfm ad cs) D (ttf cs) eE [.ref (ad 1), .int x1, .int x2, .int x3] σ (PI res σ) := by
  refine MS.of (cc := b_ST_tollRate) (maxL := 5) (ret := r_ST_tollRate) (by decide) rfl (Nat.le_of_ble_eq_true rfl) (loc := [(0, .ref (ad 1)), (1, .int x1), (2, .int x2), (3, .int x3)]) rfl (fun X C Rt => ?_)
  unfold ST_tollRate at hf
  refine j_iload_n C 1 rfl rfl d_ST_tollRate_0 ?_
  refine j_if_ne C d_ST_tollRate_1 rfl (fun c1 => ?_) (fun c1 => ?_)
  · have hf := o_if c1 hf
    refine j_iload_n C 1 rfl rfl d_ST_tollRate_6 ?_
    obtain ⟨r7, h7, hf⟩ := o_b1 hf
    refine j_callSN (host := "TollLedger") C [.int x1] [] (m_TL_issuerOf _ _ _ _ _ x1 σ h7) (gdN wc_TL_issuerOf) (by decide +kernel) (List.mem_cons_of_mem _ wd_1_1) (List.mem_cons_of_mem _ wd_2_78) hy_TL_issuerOf rfl rfl (by decide) (by decide) (by decide) (by decide) (Nat.le_of_ble_eq_true rfl) d_ST_tollRate_7 (j_kI (r := r7) (σ1 := σ) ?_)
    refine j_istore C (by decide) (loc' := [(4, .int r7), (0, .ref (ad 1)), (1, .int x1), (2, .int x2), (3, .int x3)]) rfl d_ST_tollRate_10 ?_
    refine j_iload_n C 3 rfl rfl d_ST_tollRate_12 ?_
    refine j_iload C 0 rfl d_ST_tollRate_13 ?_
    refine j_icmp_eq C d_ST_tollRate_15 rfl (fun c15 => ?_) (fun c15 => ?_)
    · have hf := o_it c15 hf
      refine j_iconst C (v := 0) (by decide) d_ST_tollRate_24 ?_
      refine j_goto C d_ST_tollRate_25 rfl ?_
      have hf := Option.some.inj hf
      subst hf
      exact j_iret C Rt (Nat.zero_le _) (Nat.zero_le _) d_ST_tollRate_38 ⟨rfl, rfl⟩
    · have hf := o_if c15 hf
      refine j_iload_n C 4 rfl rfl d_ST_tollRate_18 ?_
      refine j_iload C 0 rfl d_ST_tollRate_19 ?_
      refine j_icmp_ne C d_ST_tollRate_21 rfl (fun c21 => ?_) (fun c21 => ?_)
      · have hf := o_if c21 hf
        refine j_aload_n C 1 rfl rfl d_ST_tollRate_28 ?_
        refine g_ST_accounts C (List.mem_cons_of_mem _ wd_1_110) d_ST_tollRate_29 ?_
        refine j_iload C 0 rfl d_ST_tollRate_32 ?_
        obtain ⟨g34, hf⟩ := o_gn hf
        obtain ⟨q34, hq34, hf⟩ := o_b1 hf
        refine la_acc C g34 hq34 d_ST_tollRate_34 ?_
        obtain ⟨g35, hf⟩ := o_gn hf
        refine gp_Account_rate C (Decidable.not_not.mp g35) (List.mem_cons_of_mem _ wd_1_99) d_ST_tollRate_35 ?_
        have hf := Option.some.inj hf
        subst hf
        exact j_iret C Rt (Nat.zero_le _) (Nat.zero_le _) d_ST_tollRate_38 ⟨rfl, rfl⟩
      · have hf := o_it c21 hf
        refine j_iconst C (v := 0) (by decide) d_ST_tollRate_24 ?_
        refine j_goto C d_ST_tollRate_25 rfl ?_
        have hf := Option.some.inj hf
        subst hf
        exact j_iret C Rt (Nat.zero_le _) (Nat.zero_le _) d_ST_tollRate_38 ⟨rfl, rfl⟩
  · have hf := o_it c1 hf
    refine j_iconst C (v := 0) (by decide) d_ST_tollRate_4 ?_
    have hf := Option.some.inj hf
    subst hf
    exact j_iret C Rt (Nat.zero_le _) (Nat.zero_le _) d_ST_tollRate_5 ⟨rfl, rfl⟩
theorem d_ST_costOf_0 : decode b_ST_costOf 0 = .ok (.iload_n 1, 1) := by decide +kernel
theorem d_ST_costOf_1 : decode b_ST_costOf 1 = .ok (.i2l, 1) := by decide +kernel
theorem d_ST_costOf_2 : decode b_ST_costOf 2 = .ok (.aload_n 0, 1) := by decide +kernel
theorem d_ST_costOf_3 : decode b_ST_costOf 3 = .ok (.iload_n 2, 1) := by decide +kernel
theorem d_ST_costOf_4 : decode b_ST_costOf 4 = .ok (.iload_n 3, 1) := by decide +kernel
theorem d_ST_costOf_5 : decode b_ST_costOf 5 = .ok (.iload 4, 2) := by decide +kernel
theorem d_ST_costOf_7 : decode b_ST_costOf 7 = .ok (.invokevirtual 94, 3) := by decide +kernel
theorem d_ST_costOf_10 : decode b_ST_costOf 10 = .ok (.i2l, 1) := by decide +kernel
theorem d_ST_costOf_11 : decode b_ST_costOf 11 = .ok (.lmul, 1) := by decide +kernel
theorem d_ST_costOf_12 : decode b_ST_costOf 12 = .ok (.ldc2_w 97, 3) := by decide +kernel
theorem d_ST_costOf_15 : decode b_ST_costOf 15 = .ok (.ladd, 1) := by decide +kernel
theorem d_ST_costOf_16 : decode b_ST_costOf 16 = .ok (.ldc2_w 99, 3) := by decide +kernel
theorem d_ST_costOf_19 : decode b_ST_costOf 19 = .ok (.ldiv, 1) := by decide +kernel
theorem d_ST_costOf_20 : decode b_ST_costOf 20 = .ok (.lstore 5, 2) := by decide +kernel
theorem d_ST_costOf_22 : decode b_ST_costOf 22 = .ok (.iload_n 1, 1) := by decide +kernel
theorem d_ST_costOf_23 : decode b_ST_costOf 23 = .ok (.lload 5, 2) := by decide +kernel
theorem d_ST_costOf_25 : decode b_ST_costOf 25 = .ok (.l2i, 1) := by decide +kernel
theorem d_ST_costOf_26 : decode b_ST_costOf 26 = .ok (.iadd, 1) := by decide +kernel
theorem d_ST_costOf_27 : decode b_ST_costOf 27 = .ok (.ireturn, 1) := by decide +kernel
def ST_costOf (x1 : Int32) (x2 : Int32) (x3 : Int32) (x4 : Int32) (σ : ST) : Option (Int32) :=
  bd1 (ST_tollRate x2 x3 x4 σ) fun r7 =>
  nmL (((x1.toInt64 * r7.toInt64) + (999 : Int64)) / (1000 : Int64)) fun x5_20 =>
  some (x1 + x5_20.toInt32)
set_option maxRecDepth 100000 in
set_option maxHeartbeats 4000000 in
theorem m_ST_costOf (l : Launch) (D : va_G) (ad : Nat → Nat) (cs : Nat → ClassId) (eE : Nat × Nat) (x1 : Int32) (x2 : Int32) (x3 : Int32) (x4 : Int32) (σ : ST) {res : Int32} (hf : ST_costOf x1 x2 x3 x4 σ = some res) : MS l y_ST_costOf (Cond.code y_ST_costOf b_ST_costOf 7 r_ST_costOf :: BIG) 2 44 0 0 (wfm ad cs) D (ttf cs) eE [.ref (ad 1), .int x1, .int x2, .int x3, .int x4] σ (PI res σ) := by
  refine MS.of (cc := b_ST_costOf) (maxL := 7) (ret := r_ST_costOf) (by decide) rfl (Nat.le_of_ble_eq_true rfl) (loc := [(0, .ref (ad 1)), (1, .int x1), (2, .int x2), (3, .int x3), (4, .int x4)]) rfl (fun X C Rt => ?_)
  unfold ST_costOf at hf
  refine j_iload_n C 1 rfl rfl d_ST_costOf_0 ?_
  refine j_i2l C d_ST_costOf_1 ?_
  refine j_aload_n C 0 rfl rfl d_ST_costOf_2 ?_
  refine j_iload_n C 2 rfl rfl d_ST_costOf_3 ?_
  refine j_iload_n C 3 rfl rfl d_ST_costOf_4 ?_
  refine j_iload C 4 rfl d_ST_costOf_5 ?_
  obtain ⟨r7, h7, hf⟩ := o_b1 hf
  refine j_callV (ci := 1) (Cn := "TollLedger$State") (T := T_ST) (N := 6) C [.int x2, .int x3, .int x4] [.long x1.toInt64] (m_ST_tollRate _ _ _ _ _ x2 x3 x4 σ h7) (gdV wd_2_162 wd_2_164 wp_6 wd_1_2 wc_ST_tollRate) hy_ST_tollRate rfl ⟨1, rfl⟩ rfl rfl (by decide) (by decide) (by decide) (by decide) (Nat.le_of_ble_eq_true rfl) d_ST_costOf_7 (j_kI (r := r7) (σ1 := σ) ?_)
  refine j_i2l C d_ST_costOf_10 ?_
  refine j_lmul C d_ST_costOf_11 ?_
  refine j_ldc2 C (v := 999) (List.mem_cons_of_mem _ wd_2_166) d_ST_costOf_12 ?_
  refine j_ladd C d_ST_costOf_15 ?_
  refine j_ldc2 C (v := 1000) (List.mem_cons_of_mem _ wd_2_167) d_ST_costOf_16 ?_
  refine j_ldiv C (by decide) d_ST_costOf_19 ?_
  obtain ⟨x5_20, ex5_20, hf⟩ := o_nmL hf
  refine j_topL ex5_20 ?_
  refine j_lstore C (by decide) (loc' := [(5, .long x5_20), (0, .ref (ad 1)), (1, .int x1), (2, .int x2), (3, .int x3), (4, .int x4)]) rfl d_ST_costOf_20 ?_
  refine j_iload_n C 2 rfl rfl d_ST_costOf_22 ?_
  refine j_lload C 0 rfl d_ST_costOf_23 ?_
  refine j_l2i C d_ST_costOf_25 ?_
  refine j_iadd C d_ST_costOf_26 ?_
  have hf := Option.some.inj hf
  subst hf
  exact j_iret C Rt (Nat.zero_le _) (Nat.zero_le _) d_ST_costOf_27 ⟨rfl, rfl⟩
theorem d_AL_fastRemove_0 : decode b_AL_fastRemove 0 = .ok (.aload_n 0, 1) := by decide +kernel
theorem d_AL_fastRemove_1 : decode b_AL_fastRemove 1 = .ok (.dup, 1) := by decide +kernel
theorem d_AL_fastRemove_2 : decode b_AL_fastRemove 2 = .ok (.getfield 63, 3) := by decide +kernel
theorem d_AL_fastRemove_5 : decode b_AL_fastRemove 5 = .ok (.iconst 1, 1) := by decide +kernel
theorem d_AL_fastRemove_6 : decode b_AL_fastRemove 6 = .ok (.iadd, 1) := by decide +kernel
theorem d_AL_fastRemove_7 : decode b_AL_fastRemove 7 = .ok (.putfield 63, 3) := by decide +kernel
theorem d_AL_fastRemove_10 : decode b_AL_fastRemove 10 = .ok (.aload_n 0, 1) := by decide +kernel
theorem d_AL_fastRemove_11 : decode b_AL_fastRemove 11 = .ok (.getfield 48, 3) := by decide +kernel
theorem d_AL_fastRemove_14 : decode b_AL_fastRemove 14 = .ok (.iconst 1, 1) := by decide +kernel
theorem d_AL_fastRemove_15 : decode b_AL_fastRemove 15 = .ok (.isub, 1) := by decide +kernel
theorem d_AL_fastRemove_16 : decode b_AL_fastRemove 16 = .ok (.dup, 1) := by decide +kernel
theorem d_AL_fastRemove_17 : decode b_AL_fastRemove 17 = .ok (.istore_n 3, 1) := by decide +kernel
theorem d_AL_fastRemove_18 : decode b_AL_fastRemove 18 = .ok (.iload_n 2, 1) := by decide +kernel
theorem d_AL_fastRemove_19 : decode b_AL_fastRemove 19 = .ok (.if_icmp .le 15, 3) := by decide +kernel
theorem d_AL_fastRemove_22 : decode b_AL_fastRemove 22 = .ok (.aload_n 1, 1) := by decide +kernel
theorem d_AL_fastRemove_23 : decode b_AL_fastRemove 23 = .ok (.iload_n 2, 1) := by decide +kernel
theorem d_AL_fastRemove_24 : decode b_AL_fastRemove 24 = .ok (.iconst 1, 1) := by decide +kernel
theorem d_AL_fastRemove_25 : decode b_AL_fastRemove 25 = .ok (.iadd, 1) := by decide +kernel
theorem d_AL_fastRemove_26 : decode b_AL_fastRemove 26 = .ok (.aload_n 1, 1) := by decide +kernel
theorem d_AL_fastRemove_27 : decode b_AL_fastRemove 27 = .ok (.iload_n 2, 1) := by decide +kernel
theorem d_AL_fastRemove_28 : decode b_AL_fastRemove 28 = .ok (.iload_n 3, 1) := by decide +kernel
theorem d_AL_fastRemove_29 : decode b_AL_fastRemove 29 = .ok (.iload_n 2, 1) := by decide +kernel
theorem d_AL_fastRemove_30 : decode b_AL_fastRemove 30 = .ok (.isub, 1) := by decide +kernel
theorem d_AL_fastRemove_31 : decode b_AL_fastRemove 31 = .ok (.invokestatic 112, 3) := by decide +kernel
theorem d_AL_fastRemove_34 : decode b_AL_fastRemove 34 = .ok (.aload_n 1, 1) := by decide +kernel
theorem d_AL_fastRemove_35 : decode b_AL_fastRemove 35 = .ok (.aload_n 0, 1) := by decide +kernel
theorem d_AL_fastRemove_36 : decode b_AL_fastRemove 36 = .ok (.iload_n 3, 1) := by decide +kernel
theorem d_AL_fastRemove_37 : decode b_AL_fastRemove 37 = .ok (.dup_x1, 1) := by decide +kernel
theorem d_AL_fastRemove_38 : decode b_AL_fastRemove 38 = .ok (.putfield 48, 3) := by decide +kernel
theorem d_AL_fastRemove_41 : decode b_AL_fastRemove 41 = .ok (.aconst_null, 1) := by decide +kernel
theorem d_AL_fastRemove_42 : decode b_AL_fastRemove 42 = .ok (.aastore, 1) := by decide +kernel
theorem d_AL_fastRemove_43 : decode b_AL_fastRemove 43 = .ok (.return_, 1) := by decide +kernel
def AL_fastRemove_OL_c34 (x1 : Nat) (x3 : Int32) (σ : ST) : Option (ST) :=
  nmS (sI σ 18 x3) fun σ38 =>
  if ¬ (x1 ∈ pL σ38 ∧ pK σ38 x1 = 0) then none else
  if x3 < 0 ∨ pC σ38 x1 ≤ x3.toNatClampNeg then none else
  nmS (sQ σ38 x1 x3.toNatClampNeg none) fun σ42 =>
  some σ42
set_option maxRecDepth 100000 in
set_option maxHeartbeats 4000000 in
theorem w_AL_fastRemove_OL_c34 {X : JX} (C : JC X l D (ttf cs) eE b_AL_fastRemove "java/util/ArrayList" 4 (Cond.code y_AL_fastRemove b_AL_fastRemove 4 r_AL_fastRemove :: BIG) 1 26 0 0) {res : ST} (Rt : JR X (wfm ad cs) 0 0 (PV res) r_AL_fastRemove "fastRemove")  (x1 : Nat) (x3 : Int32) (σ : ST) (hf : AL_fastRemove_OL_c34 x1 x3 σ = some res) : J (wfm ad cs) X 4 0 0 σ 34 [(0, .ref (ad 6)), (1, .ref x1), (3, .int x3)] [] := by
  unfold AL_fastRemove_OL_c34 at hf
  refine j_aload_n C 1 rfl rfl d_AL_fastRemove_34 ?_
  refine j_aload_n C 0 rfl rfl d_AL_fastRemove_35 ?_
  refine j_iload_n C 2 rfl rfl d_AL_fastRemove_36 ?_
  refine j_dup_x1 C rfl rfl d_AL_fastRemove_37 ?_
  obtain ⟨σ38, eσ38, hf⟩ := o_nmS hf
  refine p_OL_size C eσ38 (List.mem_cons_of_mem _ wd_1_73) d_AL_fastRemove_38 ?_
  refine j_null C d_AL_fastRemove_41 ?_
  obtain ⟨g42, hf⟩ := o_gn hf
  obtain ⟨g42bb, hf⟩ := o_gn hf
  obtain ⟨σ42, eσ42, hf⟩ := o_nmS hf
  refine sa_poolN C (Decidable.not_not.mp g42) g42bb eσ42 d_AL_fastRemove_42 ?_
  have hf := Option.some.inj hf
  subst hf
  exact j_vret C Rt (Nat.zero_le _) (Nat.zero_le _) d_AL_fastRemove_43 ⟨rfl, rfl⟩
def AL_fastRemove_OL (x1 : Nat) (x2 : Int32) (σ : ST) : Option (ST) :=
  nmS (sI σ 17 ((gI σ 17) + (1 : Int32))) fun σ7 =>
  nmI ((gI σ7 18) - (1 : Int32)) fun x3_17 =>
  if ((gI σ7 18) - (1 : Int32)) ≤ x2 then (AL_fastRemove_OL_c34 x1 x3_17 σ7)
  else (if ¬ (x1 ∈ pL σ7 ∧ pK σ7 x1 = 0) then none else
  if (x2 + (1 : Int32)) < 0 ∨ x2 < 0 ∨ (x3_17 - x2) < 0 ∨ pC σ7 x1 < (x2 + (1 : Int32)).toNatClampNeg + (x3_17 - x2).toNatClampNeg ∨ pC σ7 x1 < x2.toNatClampNeg + (x3_17 - x2).toNatClampNeg ∨ allIn σ7 x1 (x2 + (1 : Int32)).toNatClampNeg (x3_17 - x2).toNatClampNeg 2 = false then none else
  nmS (sF σ7 x1 (va_cpy (pR σ7 x1) (pR σ7 x1) (x2 + (1 : Int32)).toNatClampNeg x2.toNatClampNeg (x3_17 - x2).toNatClampNeg)) fun σ31 =>
  AL_fastRemove_OL_c34 x1 x3_17 σ31)
set_option maxRecDepth 100000 in
set_option maxHeartbeats 4000000 in
theorem m_AL_fastRemove_OL (l : Launch) (D : va_G) (ad : Nat → Nat) (cs : Nat → ClassId) (eE : Nat × Nat) (x1 : Nat) (x2 : Int32) (σ : ST) {res : ST} (hf : AL_fastRemove_OL x1 x2 σ = some res) : MS l y_AL_fastRemove (Cond.code y_AL_fastRemove b_AL_fastRemove 4 r_AL_fastRemove :: BIG) 1 26 0 0 (wfm ad cs) D (ttf cs) eE [.ref (ad 6), .ref x1, .int x2] σ (PV res) := by
  refine MS.of (cc := b_AL_fastRemove) (maxL := 4) (ret := r_AL_fastRemove) (by decide) rfl (Nat.le_of_ble_eq_true rfl) (loc := [(0, .ref (ad 6)), (1, .ref x1), (2, .int x2)]) rfl (fun X C Rt => ?_)
  unfold AL_fastRemove_OL at hf
  refine j_aload_n C 0 rfl rfl d_AL_fastRemove_0 ?_
  refine j_dup C rfl d_AL_fastRemove_1 ?_
  refine g_OL_modCount C (List.mem_cons_of_mem _ wd_1_75) d_AL_fastRemove_2 ?_
  refine j_iconst C (v := 1) (by decide) d_AL_fastRemove_5 ?_
  refine j_iadd C d_AL_fastRemove_6 ?_
  obtain ⟨σ7, eσ7, hf⟩ := o_nmS hf
  refine p_OL_modCount C eσ7 (List.mem_cons_of_mem _ wd_1_75) d_AL_fastRemove_7 ?_
  refine j_aload_n C 0 rfl rfl d_AL_fastRemove_10 ?_
  refine g_OL_size C (List.mem_cons_of_mem _ wd_1_73) d_AL_fastRemove_11 ?_
  refine j_iconst C (v := 1) (by decide) d_AL_fastRemove_14 ?_
  refine j_isub C d_AL_fastRemove_15 ?_
  refine j_dup C rfl d_AL_fastRemove_16 ?_
  obtain ⟨x3_17, ex3_17, hf⟩ := o_nmI hf
  refine j_topI ex3_17 ?_
  refine j_istore_n C rfl (by decide) (loc' := [(3, .int x3_17), (0, .ref (ad 6)), (1, .ref x1), (2, .int x2)]) rfl d_AL_fastRemove_17 ?_
  refine j_iload_n C 3 rfl rfl d_AL_fastRemove_18 ?_
  refine j_icmp_le C d_AL_fastRemove_19 rfl (fun c19 => ?_) (fun c19 => ?_)
  · have hf := o_it c19 hf
    refine j_sub [1, 2, 0] rfl ?_
    exact w_AL_fastRemove_OL_c34 C Rt  x1 x3_17 σ7 hf
  · have hf := o_if c19 hf
    refine j_aload_n C 2 rfl rfl d_AL_fastRemove_22 ?_
    refine j_iload_n C 3 rfl rfl d_AL_fastRemove_23 ?_
    refine j_iconst C (v := 1) (by decide) d_AL_fastRemove_24 ?_
    refine j_iadd C d_AL_fastRemove_25 ?_
    refine j_aload_n C 2 rfl rfl d_AL_fastRemove_26 ?_
    refine j_iload_n C 3 rfl rfl d_AL_fastRemove_27 ?_
    refine j_iload_n C 0 rfl rfl d_AL_fastRemove_28 ?_
    refine j_iload_n C 3 rfl rfl d_AL_fastRemove_29 ?_
    refine j_isub C d_AL_fastRemove_30 ?_
    obtain ⟨g31, hf⟩ := o_gn hf
    obtain ⟨g31bb, hf⟩ := o_gn hf
    obtain ⟨σ31, eσ31, hf⟩ := o_nmS hf
    refine cp_pool2 C (Decidable.not_not.mp g31) g31bb eσ31 (List.mem_cons_of_mem _ wd_2_214) (List.mem_cons_of_mem _ wd_2_182) (List.mem_cons_of_mem _ wd_2_181) (List.mem_cons_of_mem _ wd_1_15) (by decide) (Nat.le_of_ble_eq_true rfl) d_AL_fastRemove_31 ?_
    refine j_sub [1, 2, 0] rfl ?_
    exact w_AL_fastRemove_OL_c34 C Rt  x1 x3_17 σ31 hf
def AL_fastRemove_DL_c34 (x1 : Nat) (x3 : Int32) (σ : ST) : Option (ST) :=
  nmS (sI σ 20 x3) fun σ38 =>
  if ¬ (x1 ∈ pL σ38 ∧ pK σ38 x1 = 0) then none else
  if x3 < 0 ∨ pC σ38 x1 ≤ x3.toNatClampNeg then none else
  nmS (sQ σ38 x1 x3.toNatClampNeg none) fun σ42 =>
  some σ42
set_option maxRecDepth 100000 in
set_option maxHeartbeats 4000000 in
theorem w_AL_fastRemove_DL_c34 {X : JX} (C : JC X l D (ttf cs) eE b_AL_fastRemove "java/util/ArrayList" 4 (Cond.code y_AL_fastRemove b_AL_fastRemove 4 r_AL_fastRemove :: BIG) 1 26 0 0) {res : ST} (Rt : JR X (wfm ad cs) 0 0 (PV res) r_AL_fastRemove "fastRemove")  (x1 : Nat) (x3 : Int32) (σ : ST) (hf : AL_fastRemove_DL_c34 x1 x3 σ = some res) : J (wfm ad cs) X 4 0 0 σ 34 [(0, .ref (ad 7)), (1, .ref x1), (3, .int x3)] [] := by
  unfold AL_fastRemove_DL_c34 at hf
  refine j_aload_n C 1 rfl rfl d_AL_fastRemove_34 ?_
  refine j_aload_n C 0 rfl rfl d_AL_fastRemove_35 ?_
  refine j_iload_n C 2 rfl rfl d_AL_fastRemove_36 ?_
  refine j_dup_x1 C rfl rfl d_AL_fastRemove_37 ?_
  obtain ⟨σ38, eσ38, hf⟩ := o_nmS hf
  refine p_DL_size C eσ38 (List.mem_cons_of_mem _ wd_1_73) d_AL_fastRemove_38 ?_
  refine j_null C d_AL_fastRemove_41 ?_
  obtain ⟨g42, hf⟩ := o_gn hf
  obtain ⟨g42bb, hf⟩ := o_gn hf
  obtain ⟨σ42, eσ42, hf⟩ := o_nmS hf
  refine sa_poolN C (Decidable.not_not.mp g42) g42bb eσ42 d_AL_fastRemove_42 ?_
  have hf := Option.some.inj hf
  subst hf
  exact j_vret C Rt (Nat.zero_le _) (Nat.zero_le _) d_AL_fastRemove_43 ⟨rfl, rfl⟩
def AL_fastRemove_DL (x1 : Nat) (x2 : Int32) (σ : ST) : Option (ST) :=
  nmS (sI σ 19 ((gI σ 19) + (1 : Int32))) fun σ7 =>
  nmI ((gI σ7 20) - (1 : Int32)) fun x3_17 =>
  if ((gI σ7 20) - (1 : Int32)) ≤ x2 then (AL_fastRemove_DL_c34 x1 x3_17 σ7)
  else (if ¬ (x1 ∈ pL σ7 ∧ pK σ7 x1 = 0) then none else
  if (x2 + (1 : Int32)) < 0 ∨ x2 < 0 ∨ (x3_17 - x2) < 0 ∨ pC σ7 x1 < (x2 + (1 : Int32)).toNatClampNeg + (x3_17 - x2).toNatClampNeg ∨ pC σ7 x1 < x2.toNatClampNeg + (x3_17 - x2).toNatClampNeg ∨ allIn σ7 x1 (x2 + (1 : Int32)).toNatClampNeg (x3_17 - x2).toNatClampNeg 3 = false then none else
  nmS (sF σ7 x1 (va_cpy (pR σ7 x1) (pR σ7 x1) (x2 + (1 : Int32)).toNatClampNeg x2.toNatClampNeg (x3_17 - x2).toNatClampNeg)) fun σ31 =>
  AL_fastRemove_DL_c34 x1 x3_17 σ31)
set_option maxRecDepth 100000 in
set_option maxHeartbeats 4000000 in
theorem m_AL_fastRemove_DL (l : Launch) (D : va_G) (ad : Nat → Nat) (cs : Nat → ClassId) (eE : Nat × Nat) (x1 : Nat) (x2 : Int32) (σ : ST) {res : ST} (hf : AL_fastRemove_DL x1 x2 σ = some res) : MS l y_AL_fastRemove (Cond.code y_AL_fastRemove b_AL_fastRemove 4 r_AL_fastRemove :: BIG) 1 26 0 0 (wfm ad cs) D (ttf cs) eE [.ref (ad 7), .ref x1, .int x2] σ (PV res) := by
  refine MS.of (cc := b_AL_fastRemove) (maxL := 4) (ret := r_AL_fastRemove) (by decide) rfl (Nat.le_of_ble_eq_true rfl) (loc := [(0, .ref (ad 7)), (1, .ref x1), (2, .int x2)]) rfl (fun X C Rt => ?_)
  unfold AL_fastRemove_DL at hf
  refine j_aload_n C 0 rfl rfl d_AL_fastRemove_0 ?_
  refine j_dup C rfl d_AL_fastRemove_1 ?_
  refine g_DL_modCount C (List.mem_cons_of_mem _ wd_1_75) d_AL_fastRemove_2 ?_
  refine j_iconst C (v := 1) (by decide) d_AL_fastRemove_5 ?_
  refine j_iadd C d_AL_fastRemove_6 ?_
  obtain ⟨σ7, eσ7, hf⟩ := o_nmS hf
  refine p_DL_modCount C eσ7 (List.mem_cons_of_mem _ wd_1_75) d_AL_fastRemove_7 ?_
  refine j_aload_n C 0 rfl rfl d_AL_fastRemove_10 ?_
  refine g_DL_size C (List.mem_cons_of_mem _ wd_1_73) d_AL_fastRemove_11 ?_
  refine j_iconst C (v := 1) (by decide) d_AL_fastRemove_14 ?_
  refine j_isub C d_AL_fastRemove_15 ?_
  refine j_dup C rfl d_AL_fastRemove_16 ?_
  obtain ⟨x3_17, ex3_17, hf⟩ := o_nmI hf
  refine j_topI ex3_17 ?_
  refine j_istore_n C rfl (by decide) (loc' := [(3, .int x3_17), (0, .ref (ad 7)), (1, .ref x1), (2, .int x2)]) rfl d_AL_fastRemove_17 ?_
  refine j_iload_n C 3 rfl rfl d_AL_fastRemove_18 ?_
  refine j_icmp_le C d_AL_fastRemove_19 rfl (fun c19 => ?_) (fun c19 => ?_)
  · have hf := o_it c19 hf
    refine j_sub [1, 2, 0] rfl ?_
    exact w_AL_fastRemove_DL_c34 C Rt  x1 x3_17 σ7 hf
  · have hf := o_if c19 hf
    refine j_aload_n C 2 rfl rfl d_AL_fastRemove_22 ?_
    refine j_iload_n C 3 rfl rfl d_AL_fastRemove_23 ?_
    refine j_iconst C (v := 1) (by decide) d_AL_fastRemove_24 ?_
    refine j_iadd C d_AL_fastRemove_25 ?_
    refine j_aload_n C 2 rfl rfl d_AL_fastRemove_26 ?_
    refine j_iload_n C 3 rfl rfl d_AL_fastRemove_27 ?_
    refine j_iload_n C 0 rfl rfl d_AL_fastRemove_28 ?_
    refine j_iload_n C 3 rfl rfl d_AL_fastRemove_29 ?_
    refine j_isub C d_AL_fastRemove_30 ?_
    obtain ⟨g31, hf⟩ := o_gn hf
    obtain ⟨g31bb, hf⟩ := o_gn hf
    obtain ⟨σ31, eσ31, hf⟩ := o_nmS hf
    refine cp_pool3 C (Decidable.not_not.mp g31) g31bb eσ31 (List.mem_cons_of_mem _ wd_2_214) (List.mem_cons_of_mem _ wd_2_182) (List.mem_cons_of_mem _ wd_2_181) (List.mem_cons_of_mem _ wd_1_15) (by decide) (Nat.le_of_ble_eq_true rfl) d_AL_fastRemove_31 ?_
    refine j_sub [1, 2, 0] rfl ?_
    exact w_AL_fastRemove_DL_c34 C Rt  x1 x3_17 σ31 hf
theorem d_AL_remove_0 : decode b_AL_remove 0 = .ok (.iload_n 1, 1) := by decide +kernel
theorem d_AL_remove_1 : decode b_AL_remove 1 = .ok (.aload_n 0, 1) := by decide +kernel
theorem d_AL_remove_2 : decode b_AL_remove 2 = .ok (.getfield 48, 3) := by decide +kernel
theorem d_AL_remove_5 : decode b_AL_remove 5 = .ok (.invokestatic 118, 3) := by decide +kernel
theorem d_AL_remove_8 : decode b_AL_remove 8 = .ok (.pop, 1) := by decide +kernel
theorem d_AL_remove_9 : decode b_AL_remove 9 = .ok (.aload_n 0, 1) := by decide +kernel
theorem d_AL_remove_10 : decode b_AL_remove 10 = .ok (.getfield 9, 3) := by decide +kernel
theorem d_AL_remove_13 : decode b_AL_remove 13 = .ok (.astore_n 2, 1) := by decide +kernel
theorem d_AL_remove_14 : decode b_AL_remove 14 = .ok (.aload_n 2, 1) := by decide +kernel
theorem d_AL_remove_15 : decode b_AL_remove 15 = .ok (.iload_n 1, 1) := by decide +kernel
theorem d_AL_remove_16 : decode b_AL_remove 16 = .ok (.aaload, 1) := by decide +kernel
theorem d_AL_remove_17 : decode b_AL_remove 17 = .ok (.astore_n 3, 1) := by decide +kernel
theorem d_AL_remove_18 : decode b_AL_remove 18 = .ok (.aload_n 0, 1) := by decide +kernel
theorem d_AL_remove_19 : decode b_AL_remove 19 = .ok (.aload_n 2, 1) := by decide +kernel
theorem d_AL_remove_20 : decode b_AL_remove 20 = .ok (.iload_n 1, 1) := by decide +kernel
theorem d_AL_remove_21 : decode b_AL_remove 21 = .ok (.invokevirtual 144, 3) := by decide +kernel
theorem d_AL_remove_24 : decode b_AL_remove 24 = .ok (.aload_n 3, 1) := by decide +kernel
theorem d_AL_remove_25 : decode b_AL_remove 25 = .ok (.areturn, 1) := by decide +kernel
def AL_remove_OL (x1 : Int32) (σ : ST) : Option (Nat × ST) :=
  bd1 (OB_checkIndex x1 (gI σ 18)) fun r5 =>
  if ¬ ((gE σ 0) ∈ pL σ ∧ pK σ (gE σ 0) = 0) then none else
  if x1 < 0 ∨ pC σ (gE σ 0) ≤ x1.toNatClampNeg then none else
  bd1 (pR σ (gE σ 0) x1.toNatClampNeg) fun q16 =>
  bd1 (AL_fastRemove_OL (gE σ 0) x1 σ) fun σ21 =>
  some (q16, σ21)
set_option maxRecDepth 100000 in
set_option maxHeartbeats 4000000 in
theorem m_AL_remove_OL (l : Launch) (D : va_G) (ad : Nat → Nat) (cs : Nat → ClassId) (eE : Nat × Nat) (x1 : Int32) (σ : ST) {res : Nat × ST} (hf : AL_remove_OL x1 σ = some res) : MS l y_AL_remove (Cond.code y_AL_remove b_AL_remove 4 r_AL_remove :: BIG) 2 49 0 0 (wfm ad cs) D (ttf cs) eE [.ref (ad 6), .int x1] σ (PA res.1 res.2) := by
  refine MS.of (cc := b_AL_remove) (maxL := 4) (ret := r_AL_remove) (by decide) rfl (Nat.le_of_ble_eq_true rfl) (loc := [(0, .ref (ad 6)), (1, .int x1)]) rfl (fun X C Rt => ?_)
  unfold AL_remove_OL at hf
  refine j_iload_n C 1 rfl rfl d_AL_remove_0 ?_
  refine j_aload_n C 0 rfl rfl d_AL_remove_1 ?_
  refine g_OL_size C (List.mem_cons_of_mem _ wd_1_73) d_AL_remove_2 ?_
  obtain ⟨r5, h5, hf⟩ := o_b1 hf
  refine j_callS C [.int x1, .int (gI σ 18)] [] (m_OB_checkIndex _ _ _ _ _ x1 (gI σ 18) σ h5) (gdS wd_2_62 wd_2_63 wd_1_12 wc_OB_checkIndex) hy_OB_checkIndex rfl rfl (by decide) (by decide) (by decide) (by decide) (Nat.le_of_ble_eq_true rfl) d_AL_remove_5 (j_kI (r := r5) (σ1 := σ) ?_)
  refine j_pop C rfl d_AL_remove_8 ?_
  refine j_aload_n C 0 rfl rfl d_AL_remove_9 ?_
  refine g_OL_elementData C (List.mem_cons_of_mem _ wd_1_72) d_AL_remove_10 ?_
  refine j_astore_n C rfl (by decide) (loc' := [(2, .ref (gE σ 0)), (0, .ref (ad 6)), (1, .int x1)]) rfl d_AL_remove_13 ?_
  refine j_aload_n C 0 rfl rfl d_AL_remove_14 ?_
  refine j_iload_n C 2 rfl rfl d_AL_remove_15 ?_
  obtain ⟨g16, hf⟩ := o_gn hf
  obtain ⟨g16bb, hf⟩ := o_gn hf
  obtain ⟨q16, hq16, hf⟩ := o_b1 hf
  refine la_pool C (Decidable.not_not.mp g16) g16bb hq16 d_AL_remove_16 ?_
  refine j_astore_n C rfl (by decide) (loc' := [(3, .ref q16), (2, .ref (gE σ 0)), (0, .ref (ad 6)), (1, .int x1)]) rfl d_AL_remove_17 ?_
  refine j_aload_n C 2 rfl rfl d_AL_remove_18 ?_
  refine j_aload_n C 1 rfl rfl d_AL_remove_19 ?_
  refine j_iload_n C 3 rfl rfl d_AL_remove_20 ?_
  obtain ⟨σ21, h21, hf⟩ := o_b1 hf
  refine j_callV (ci := 9) (Cn := "java/util/ArrayList") (T := T_AL) (N := 3) C [.ref (gE σ 0), .int x1] [] (m_AL_fastRemove_OL _ _ _ _ _ (gE σ 0) x1 σ h21) (gdV wd_2_210 wd_2_212 wp_10 wd_1_6 wc_AL_fastRemove) hy_AL_fastRemove rfl ⟨6, rfl⟩ rfl rfl (by decide) (by decide) (by decide) (by decide) (Nat.le_of_ble_eq_true rfl) d_AL_remove_21 (j_kV (σ1 := σ21) ?_)
  refine j_aload_n C 0 rfl rfl d_AL_remove_24 ?_
  have hf := Option.some.inj hf
  subst hf
  exact j_aret C Rt (Or.inl ⟨_, rfl⟩) (Nat.zero_le _) (Nat.zero_le _) d_AL_remove_25 ⟨rfl, rfl⟩
def AL_remove_DL (x1 : Int32) (σ : ST) : Option (Nat × ST) :=
  bd1 (OB_checkIndex x1 (gI σ 20)) fun r5 =>
  if ¬ ((gE σ 1) ∈ pL σ ∧ pK σ (gE σ 1) = 0) then none else
  if x1 < 0 ∨ pC σ (gE σ 1) ≤ x1.toNatClampNeg then none else
  bd1 (pR σ (gE σ 1) x1.toNatClampNeg) fun q16 =>
  bd1 (AL_fastRemove_DL (gE σ 1) x1 σ) fun σ21 =>
  some (q16, σ21)
set_option maxRecDepth 100000 in
set_option maxHeartbeats 4000000 in
theorem m_AL_remove_DL (l : Launch) (D : va_G) (ad : Nat → Nat) (cs : Nat → ClassId) (eE : Nat × Nat) (x1 : Int32) (σ : ST) {res : Nat × ST} (hf : AL_remove_DL x1 σ = some res) : MS l y_AL_remove (Cond.code y_AL_remove b_AL_remove 4 r_AL_remove :: BIG) 2 49 0 0 (wfm ad cs) D (ttf cs) eE [.ref (ad 7), .int x1] σ (PA res.1 res.2) := by
  refine MS.of (cc := b_AL_remove) (maxL := 4) (ret := r_AL_remove) (by decide) rfl (Nat.le_of_ble_eq_true rfl) (loc := [(0, .ref (ad 7)), (1, .int x1)]) rfl (fun X C Rt => ?_)
  unfold AL_remove_DL at hf
  refine j_iload_n C 1 rfl rfl d_AL_remove_0 ?_
  refine j_aload_n C 0 rfl rfl d_AL_remove_1 ?_
  refine g_DL_size C (List.mem_cons_of_mem _ wd_1_73) d_AL_remove_2 ?_
  obtain ⟨r5, h5, hf⟩ := o_b1 hf
  refine j_callS C [.int x1, .int (gI σ 20)] [] (m_OB_checkIndex _ _ _ _ _ x1 (gI σ 20) σ h5) (gdS wd_2_62 wd_2_63 wd_1_12 wc_OB_checkIndex) hy_OB_checkIndex rfl rfl (by decide) (by decide) (by decide) (by decide) (Nat.le_of_ble_eq_true rfl) d_AL_remove_5 (j_kI (r := r5) (σ1 := σ) ?_)
  refine j_pop C rfl d_AL_remove_8 ?_
  refine j_aload_n C 0 rfl rfl d_AL_remove_9 ?_
  refine g_DL_elementData C (List.mem_cons_of_mem _ wd_1_72) d_AL_remove_10 ?_
  refine j_astore_n C rfl (by decide) (loc' := [(2, .ref (gE σ 1)), (0, .ref (ad 7)), (1, .int x1)]) rfl d_AL_remove_13 ?_
  refine j_aload_n C 0 rfl rfl d_AL_remove_14 ?_
  refine j_iload_n C 2 rfl rfl d_AL_remove_15 ?_
  obtain ⟨g16, hf⟩ := o_gn hf
  obtain ⟨g16bb, hf⟩ := o_gn hf
  obtain ⟨q16, hq16, hf⟩ := o_b1 hf
  refine la_pool C (Decidable.not_not.mp g16) g16bb hq16 d_AL_remove_16 ?_
  refine j_astore_n C rfl (by decide) (loc' := [(3, .ref q16), (2, .ref (gE σ 1)), (0, .ref (ad 7)), (1, .int x1)]) rfl d_AL_remove_17 ?_
  refine j_aload_n C 2 rfl rfl d_AL_remove_18 ?_
  refine j_aload_n C 1 rfl rfl d_AL_remove_19 ?_
  refine j_iload_n C 3 rfl rfl d_AL_remove_20 ?_
  obtain ⟨σ21, h21, hf⟩ := o_b1 hf
  refine j_callV (ci := 9) (Cn := "java/util/ArrayList") (T := T_AL) (N := 3) C [.ref (gE σ 1), .int x1] [] (m_AL_fastRemove_DL _ _ _ _ _ (gE σ 1) x1 σ h21) (gdV wd_2_210 wd_2_212 wp_10 wd_1_6 wc_AL_fastRemove) hy_AL_fastRemove rfl ⟨7, rfl⟩ rfl rfl (by decide) (by decide) (by decide) (by decide) (Nat.le_of_ble_eq_true rfl) d_AL_remove_21 (j_kV (σ1 := σ21) ?_)
  refine j_aload_n C 0 rfl rfl d_AL_remove_24 ?_
  have hf := Option.some.inj hf
  subst hf
  exact j_aret C Rt (Or.inl ⟨_, rfl⟩) (Nat.zero_le _) (Nat.zero_le _) d_AL_remove_25 ⟨rfl, rfl⟩
theorem d_ST_dropSpentOffers_0 : decode b_ST_dropSpentOffers 0 = .ok (.aload_n 0, 1) := by decide +kernel
theorem d_ST_dropSpentOffers_1 : decode b_ST_dropSpentOffers 1 = .ok (.getfield 27, 3) := by decide +kernel
theorem d_ST_dropSpentOffers_4 : decode b_ST_dropSpentOffers 4 = .ok (.invokevirtual 48, 3) := by decide +kernel
theorem d_ST_dropSpentOffers_7 : decode b_ST_dropSpentOffers 7 = .ok (.iconst 1, 1) := by decide +kernel
theorem d_ST_dropSpentOffers_8 : decode b_ST_dropSpentOffers 8 = .ok (.isub, 1) := by decide +kernel
theorem d_ST_dropSpentOffers_9 : decode b_ST_dropSpentOffers 9 = .ok (.istore_n 1, 1) := by decide +kernel
theorem d_ST_dropSpentOffers_10 : decode b_ST_dropSpentOffers 10 = .ok (.iload_n 1, 1) := by decide +kernel
theorem d_ST_dropSpentOffers_11 : decode b_ST_dropSpentOffers 11 = .ok (.ifCond .lt 52, 3) := by decide +kernel
theorem d_ST_dropSpentOffers_14 : decode b_ST_dropSpentOffers 14 = .ok (.aload_n 0, 1) := by decide +kernel
theorem d_ST_dropSpentOffers_15 : decode b_ST_dropSpentOffers 15 = .ok (.getfield 27, 3) := by decide +kernel
theorem d_ST_dropSpentOffers_18 : decode b_ST_dropSpentOffers 18 = .ok (.iload_n 1, 1) := by decide +kernel
theorem d_ST_dropSpentOffers_19 : decode b_ST_dropSpentOffers 19 = .ok (.invokevirtual 52, 3) := by decide +kernel
theorem d_ST_dropSpentOffers_22 : decode b_ST_dropSpentOffers 22 = .ok (.checkcast 56, 3) := by decide +kernel
theorem d_ST_dropSpentOffers_25 : decode b_ST_dropSpentOffers 25 = .ok (.getfield 116, 3) := by decide +kernel
theorem d_ST_dropSpentOffers_28 : decode b_ST_dropSpentOffers 28 = .ok (.ifCond .eq 20, 3) := by decide +kernel
theorem d_ST_dropSpentOffers_31 : decode b_ST_dropSpentOffers 31 = .ok (.aload_n 0, 1) := by decide +kernel
theorem d_ST_dropSpentOffers_32 : decode b_ST_dropSpentOffers 32 = .ok (.getfield 27, 3) := by decide +kernel
theorem d_ST_dropSpentOffers_35 : decode b_ST_dropSpentOffers 35 = .ok (.iload_n 1, 1) := by decide +kernel
theorem d_ST_dropSpentOffers_36 : decode b_ST_dropSpentOffers 36 = .ok (.invokevirtual 52, 3) := by decide +kernel
theorem d_ST_dropSpentOffers_39 : decode b_ST_dropSpentOffers 39 = .ok (.checkcast 56, 3) := by decide +kernel
theorem d_ST_dropSpentOffers_42 : decode b_ST_dropSpentOffers 42 = .ok (.getfield 122, 3) := by decide +kernel
theorem d_ST_dropSpentOffers_45 : decode b_ST_dropSpentOffers 45 = .ok (.ifCond .ne 12, 3) := by decide +kernel
theorem d_ST_dropSpentOffers_48 : decode b_ST_dropSpentOffers 48 = .ok (.aload_n 0, 1) := by decide +kernel
theorem d_ST_dropSpentOffers_49 : decode b_ST_dropSpentOffers 49 = .ok (.getfield 27, 3) := by decide +kernel
theorem d_ST_dropSpentOffers_52 : decode b_ST_dropSpentOffers 52 = .ok (.iload_n 1, 1) := by decide +kernel
theorem d_ST_dropSpentOffers_53 : decode b_ST_dropSpentOffers 53 = .ok (.invokevirtual 143, 3) := by decide +kernel
theorem d_ST_dropSpentOffers_56 : decode b_ST_dropSpentOffers 56 = .ok (.pop, 1) := by decide +kernel
theorem d_ST_dropSpentOffers_57 : decode b_ST_dropSpentOffers 57 = .ok (.iinc 1 (-1), 3) := by decide +kernel
theorem d_ST_dropSpentOffers_60 : decode b_ST_dropSpentOffers 60 = .ok (.goto (-50), 3) := by decide +kernel
theorem d_ST_dropSpentOffers_63 : decode b_ST_dropSpentOffers 63 = .ok (.return_, 1) := by decide +kernel
def ST_dropSpentOffers_c48 (kb10 : Int32 → ST → Option (ST)) (x1 : Int32) (σ : ST) : Option (ST) :=
  bd2 (AL_remove_OL x1 σ) fun r53 σ53 =>
  kb10 (x1 + (-1)) σ53
set_option maxRecDepth 100000 in
set_option maxHeartbeats 4000000 in
theorem w_ST_dropSpentOffers_c48 {X : JX} (C : JC X l D (ttf cs) eE b_ST_dropSpentOffers "TollLedger$State" 2 (Cond.code y_ST_dropSpentOffers b_ST_dropSpentOffers 2 r_ST_dropSpentOffers :: BIG) 3 72 0 0) {res : ST} (Rt : JR X (wfm ad cs) 0 0 (PV res) r_ST_dropSpentOffers "dropSpentOffers") {kb10 : Int32 → ST → Option (ST)} (hk10 : ∀ (x1 : Int32) (σ : ST), kb10 x1 σ = some res → J (wfm ad cs) X 2 0 0 σ 10 [(0, .ref (ad 1)), (1, .int x1)] []) (x1 : Int32) (σ : ST) (hf : ST_dropSpentOffers_c48 kb10 x1 σ = some res) : J (wfm ad cs) X 2 0 0 σ 48 [(0, .ref (ad 1)), (1, .int x1)] [] := by
  unfold ST_dropSpentOffers_c48 at hf
  refine j_aload_n C 0 rfl rfl d_ST_dropSpentOffers_48 ?_
  refine g_ST_offers C (List.mem_cons_of_mem _ wd_1_116) d_ST_dropSpentOffers_49 ?_
  refine j_iload_n C 1 rfl rfl d_ST_dropSpentOffers_52 ?_
  obtain ⟨r53, σ53, h53, hf⟩ := o_b2 hf
  refine j_callV (ci := 9) (Cn := "java/util/ArrayList") (T := T_AL) (N := 3) C [.int x1] [] (m_AL_remove_OL _ _ _ _ _ x1 σ h53) (gdV wd_2_206 wd_2_207 wd_2_208 wd_1_6 wc_AL_remove) hy_AL_remove rfl ⟨6, rfl⟩ rfl rfl (by decide) (by decide) (by decide) (by decide) (Nat.le_of_ble_eq_true rfl) d_ST_dropSpentOffers_53 (j_kA (r := r53) (σ1 := σ53) ?_)
  refine j_pop C rfl d_ST_dropSpentOffers_56 ?_
  refine j_iinc C 1 rfl (v := (x1 + (-1))) (inc_m1 _) (by decide) (loc' := [(1, .int (x1 + (-1))), (0, .ref (ad 1))]) rfl d_ST_dropSpentOffers_57 ?_
  refine j_goto C d_ST_dropSpentOffers_60 rfl ?_
  refine j_sub [1, 0] rfl ?_
  exact hk10 (x1 + (-1)) σ53 hf
def ST_dropSpentOffers_b10 (kb10 : Int32 → ST → Option (ST)) (x1 : Int32) (σ : ST) : Option (ST) :=
  if x1 < 0 then (some σ)
  else (bd1 (AL_get_OL x1 σ) fun r19 =>
  if ¬ (r19 ∈ pL σ ∧ pK σ r19 = 2) then none else
  if (pP σ r19 3) = 0 then (ST_dropSpentOffers_c48 kb10 x1 σ)
  else (bd1 (AL_get_OL x1 σ) fun r36 =>
  if ¬ (r36 ∈ pL σ ∧ pK σ r36 = 2) then none else
  if (pP σ r36 5) = 0 then (ST_dropSpentOffers_c48 kb10 x1 σ)
  else (kb10 (x1 + (-1)) σ)))
set_option maxRecDepth 100000 in
set_option maxHeartbeats 4000000 in
theorem w_ST_dropSpentOffers_b10 {X : JX} (C : JC X l D (ttf cs) eE b_ST_dropSpentOffers "TollLedger$State" 2 (Cond.code y_ST_dropSpentOffers b_ST_dropSpentOffers 2 r_ST_dropSpentOffers :: BIG) 3 72 0 0) {res : ST} (Rt : JR X (wfm ad cs) 0 0 (PV res) r_ST_dropSpentOffers "dropSpentOffers") {kb10 : Int32 → ST → Option (ST)} (hk10 : ∀ (x1 : Int32) (σ : ST), kb10 x1 σ = some res → J (wfm ad cs) X 2 0 0 σ 10 [(0, .ref (ad 1)), (1, .int x1)] []) (x1 : Int32) (σ : ST) (hf : ST_dropSpentOffers_b10 kb10 x1 σ = some res) : J (wfm ad cs) X 2 0 0 σ 10 [(0, .ref (ad 1)), (1, .int x1)] [] := by
  unfold ST_dropSpentOffers_b10 at hf
  refine j_iload_n C 1 rfl rfl d_ST_dropSpentOffers_10 ?_
  refine j_if_lt C d_ST_dropSpentOffers_11 rfl (fun c11 => ?_) (fun c11 => ?_)
  · have hf := o_it c11 hf
    have hf := Option.some.inj hf
    subst hf
    exact j_vret C Rt (Nat.zero_le _) (Nat.zero_le _) d_ST_dropSpentOffers_63 ⟨rfl, rfl⟩
  · have hf := o_if c11 hf
    refine j_aload_n C 0 rfl rfl d_ST_dropSpentOffers_14 ?_
    refine g_ST_offers C (List.mem_cons_of_mem _ wd_1_116) d_ST_dropSpentOffers_15 ?_
    refine j_iload_n C 1 rfl rfl d_ST_dropSpentOffers_18 ?_
    obtain ⟨r19, h19, hf⟩ := o_b1 hf
    refine j_callV (ci := 9) (Cn := "java/util/ArrayList") (T := T_AL) (N := 3) C [.int x1] [] (m_AL_get_OL _ _ _ _ _ x1 σ h19) (gdV wd_2_58 wd_2_59 wd_2_60 wd_1_6 wc_AL_get) hy_AL_get rfl ⟨6, rfl⟩ rfl rfl (by decide) (by decide) (by decide) (by decide) (Nat.le_of_ble_eq_true rfl) d_ST_dropSpentOffers_19 (j_kA (r := r19) (σ1 := σ) ?_)
    obtain ⟨g22, hf⟩ := o_gn hf
    refine cc_Offer C (Decidable.not_not.mp g22) (List.mem_cons_of_mem _ wd_2_72) d_ST_dropSpentOffers_22 ?_
    refine gp_Offer_w C (Decidable.not_not.mp g22) (List.mem_cons_of_mem _ wd_3_24) d_ST_dropSpentOffers_25 ?_
    refine j_if_eq C d_ST_dropSpentOffers_28 rfl (fun c28 => ?_) (fun c28 => ?_)
    · have hf := o_it c28 hf
      exact w_ST_dropSpentOffers_c48 C Rt hk10 x1 σ hf
    · have hf := o_if c28 hf
      refine j_aload_n C 0 rfl rfl d_ST_dropSpentOffers_31 ?_
      refine g_ST_offers C (List.mem_cons_of_mem _ wd_1_116) d_ST_dropSpentOffers_32 ?_
      refine j_iload_n C 1 rfl rfl d_ST_dropSpentOffers_35 ?_
      obtain ⟨r36, h36, hf⟩ := o_b1 hf
      refine j_callV (ci := 9) (Cn := "java/util/ArrayList") (T := T_AL) (N := 3) C [.int x1] [] (m_AL_get_OL _ _ _ _ _ x1 σ h36) (gdV wd_2_58 wd_2_59 wd_2_60 wd_1_6 wc_AL_get) hy_AL_get rfl ⟨6, rfl⟩ rfl rfl (by decide) (by decide) (by decide) (by decide) (Nat.le_of_ble_eq_true rfl) d_ST_dropSpentOffers_36 (j_kA (r := r36) (σ1 := σ) ?_)
      obtain ⟨g39, hf⟩ := o_gn hf
      refine cc_Offer C (Decidable.not_not.mp g39) (List.mem_cons_of_mem _ wd_2_72) d_ST_dropSpentOffers_39 ?_
      refine gp_Offer_g C (Decidable.not_not.mp g39) (List.mem_cons_of_mem _ wd_3_31) d_ST_dropSpentOffers_42 ?_
      refine j_if_ne C d_ST_dropSpentOffers_45 rfl (fun c45 => ?_) (fun c45 => ?_)
      · have hf := o_if c45 hf
        refine j_iinc C 1 rfl (v := (x1 + (-1))) (inc_m1 _) (by decide) (loc' := [(1, .int (x1 + (-1))), (0, .ref (ad 1))]) rfl d_ST_dropSpentOffers_57 ?_
        refine j_goto C d_ST_dropSpentOffers_60 rfl ?_
        refine j_sub [1, 0] rfl ?_
        exact hk10 (x1 + (-1)) σ hf
      · have hf := o_it c45 hf
        exact w_ST_dropSpentOffers_c48 C Rt hk10 x1 σ hf
def ST_dropSpentOffers_L10 : Nat → Int32 → ST → Option (ST)
  | 0, _, _ => none
  | N + 1, x1, σ => ST_dropSpentOffers_b10 (fun x1 σ => ST_dropSpentOffers_L10 N x1 σ) x1 σ
theorem w_ST_dropSpentOffers_L10 {X : JX} (C : JC X l D (ttf cs) eE b_ST_dropSpentOffers "TollLedger$State" 2 (Cond.code y_ST_dropSpentOffers b_ST_dropSpentOffers 2 r_ST_dropSpentOffers :: BIG) 3 72 0 0) {res : ST} (Rt : JR X (wfm ad cs) 0 0 (PV res) r_ST_dropSpentOffers "dropSpentOffers")  (N : Nat) (x1 : Int32) (σ : ST) (hf : ST_dropSpentOffers_L10 N x1 σ = some res) : J (wfm ad cs) X 2 0 0 σ 10 [(0, .ref (ad 1)), (1, .int x1)] [] := by
  induction N generalizing x1 σ with
  | zero => exact nomatch hf
  | succ N ih => exact w_ST_dropSpentOffers_b10 C Rt  (fun x1 σ h => ih x1 σ h) x1 σ hf
def ST_dropSpentOffers (σ : ST) : Option (ST) :=
  bd1 (AL_size_OL σ) fun r4 =>
  nmI (r4 - (1 : Int32)) fun x1_9 =>
  ST_dropSpentOffers_L10 FU x1_9 σ
set_option maxRecDepth 100000 in
set_option maxHeartbeats 4000000 in
theorem m_ST_dropSpentOffers (l : Launch) (D : va_G) (ad : Nat → Nat) (cs : Nat → ClassId) (eE : Nat × Nat) (σ : ST) {res : ST} (hf : ST_dropSpentOffers σ = some res) : MS l y_ST_dropSpentOffers (Cond.code y_ST_dropSpentOffers b_ST_dropSpentOffers 2 r_ST_dropSpentOffers :: BIG) 3 72 0 0 (wfm ad cs) D (ttf cs) eE [.ref (ad 1)] σ (PV res) := by
  refine MS.of (cc := b_ST_dropSpentOffers) (maxL := 2) (ret := r_ST_dropSpentOffers) (by decide) rfl (Nat.le_of_ble_eq_true rfl) (loc := [(0, .ref (ad 1))]) rfl (fun X C Rt => ?_)
  unfold ST_dropSpentOffers at hf
  refine j_aload_n C 0 rfl rfl d_ST_dropSpentOffers_0 ?_
  refine g_ST_offers C (List.mem_cons_of_mem _ wd_1_116) d_ST_dropSpentOffers_1 ?_
  obtain ⟨r4, h4, hf⟩ := o_b1 hf
  refine j_callV (ci := 9) (Cn := "java/util/ArrayList") (T := T_AL) (N := 3) C [] [] (m_AL_size_OL _ _ _ _ _ σ h4) (gdV wd_2_54 wd_2_55 wd_2_56 wd_1_6 wc_AL_size) hy_AL_size rfl ⟨6, rfl⟩ rfl rfl (by decide) (by decide) (by decide) (by decide) (Nat.le_of_ble_eq_true rfl) d_ST_dropSpentOffers_4 (j_kI (r := r4) (σ1 := σ) ?_)
  refine j_iconst C (v := 1) (by decide) d_ST_dropSpentOffers_7 ?_
  refine j_isub C d_ST_dropSpentOffers_8 ?_
  obtain ⟨x1_9, ex1_9, hf⟩ := o_nmI hf
  refine j_topI ex1_9 ?_
  refine j_istore_n C rfl (by decide) (loc' := [(1, .int x1_9), (0, .ref (ad 1))]) rfl d_ST_dropSpentOffers_9 ?_
  refine j_sub [1, 0] rfl ?_
  exact w_ST_dropSpentOffers_L10 C Rt  FU x1_9 σ hf
theorem d_ST_fundsOf_0 : decode b_ST_fundsOf 0 = .ok (.iload_n 2, 1) := by decide +kernel
theorem d_ST_fundsOf_1 : decode b_ST_fundsOf 1 = .ok (.ifCond .ne 23, 3) := by decide +kernel
theorem d_ST_fundsOf_4 : decode b_ST_fundsOf 4 = .ok (.iconst 0, 1) := by decide +kernel
theorem d_ST_fundsOf_5 : decode b_ST_fundsOf 5 = .ok (.aload_n 0, 1) := by decide +kernel
theorem d_ST_fundsOf_6 : decode b_ST_fundsOf 6 = .ok (.getfield 11, 3) := by decide +kernel
theorem d_ST_fundsOf_9 : decode b_ST_fundsOf 9 = .ok (.iload_n 1, 1) := by decide +kernel
theorem d_ST_fundsOf_10 : decode b_ST_fundsOf 10 = .ok (.aaload, 1) := by decide +kernel
theorem d_ST_fundsOf_11 : decode b_ST_fundsOf 11 = .ok (.getfield 40, 3) := by decide +kernel
theorem d_ST_fundsOf_14 : decode b_ST_fundsOf 14 = .ok (.aload_n 0, 1) := by decide +kernel
theorem d_ST_fundsOf_15 : decode b_ST_fundsOf 15 = .ok (.iload_n 1, 1) := by decide +kernel
theorem d_ST_fundsOf_16 : decode b_ST_fundsOf 16 = .ok (.invokevirtual 67, 3) := by decide +kernel
theorem d_ST_fundsOf_19 : decode b_ST_fundsOf 19 = .ok (.isub, 1) := by decide +kernel
theorem d_ST_fundsOf_20 : decode b_ST_fundsOf 20 = .ok (.invokestatic 70, 3) := by decide +kernel
theorem d_ST_fundsOf_23 : decode b_ST_fundsOf 23 = .ok (.ireturn, 1) := by decide +kernel
theorem d_ST_fundsOf_24 : decode b_ST_fundsOf 24 = .ok (.iload_n 2, 1) := by decide +kernel
theorem d_ST_fundsOf_25 : decode b_ST_fundsOf 25 = .ok (.invokestatic 76, 3) := by decide +kernel
theorem d_ST_fundsOf_28 : decode b_ST_fundsOf 28 = .ok (.istore_n 3, 1) := by decide +kernel
theorem d_ST_fundsOf_29 : decode b_ST_fundsOf 29 = .ok (.iload_n 1, 1) := by decide +kernel
theorem d_ST_fundsOf_30 : decode b_ST_fundsOf 30 = .ok (.iload_n 3, 1) := by decide +kernel
theorem d_ST_fundsOf_31 : decode b_ST_fundsOf 31 = .ok (.if_icmp .ne 6, 3) := by decide +kernel
theorem d_ST_fundsOf_34 : decode b_ST_fundsOf 34 = .ok (.ldc 79, 2) := by decide +kernel
theorem d_ST_fundsOf_36 : decode b_ST_fundsOf 36 = .ok (.ireturn, 1) := by decide +kernel
theorem d_ST_fundsOf_37 : decode b_ST_fundsOf 37 = .ok (.iconst 0, 1) := by decide +kernel
theorem d_ST_fundsOf_38 : decode b_ST_fundsOf 38 = .ok (.aload_n 0, 1) := by decide +kernel
theorem d_ST_fundsOf_39 : decode b_ST_fundsOf 39 = .ok (.getfield 20, 3) := by decide +kernel
theorem d_ST_fundsOf_42 : decode b_ST_fundsOf 42 = .ok (.getfield 80, 3) := by decide +kernel
theorem d_ST_fundsOf_45 : decode b_ST_fundsOf 45 = .ok (.iload_n 1, 1) := by decide +kernel
theorem d_ST_fundsOf_46 : decode b_ST_fundsOf 46 = .ok (.iload_n 3, 1) := by decide +kernel
theorem d_ST_fundsOf_47 : decode b_ST_fundsOf 47 = .ok (.iload_n 2, 1) := by decide +kernel
theorem d_ST_fundsOf_48 : decode b_ST_fundsOf 48 = .ok (.invokestatic 84, 3) := by decide +kernel
theorem d_ST_fundsOf_51 : decode b_ST_fundsOf 51 = .ok (.invokestatic 87, 3) := by decide +kernel
theorem d_ST_fundsOf_54 : decode b_ST_fundsOf 54 = .ok (.iaload, 1) := by decide +kernel
theorem d_ST_fundsOf_55 : decode b_ST_fundsOf 55 = .ok (.invokestatic 70, 3) := by decide +kernel
theorem d_ST_fundsOf_58 : decode b_ST_fundsOf 58 = .ok (.ireturn, 1) := by decide +kernel
def ST_fundsOf (x1 : Int32) (x2 : Int32) (σ : ST) : Option (Int32) :=
  if x2 = 0 then (if x1 < 0 ∨ 6 ≤ x1.toNatClampNeg then none else
  bd1 (gR σ 0 x1.toNatClampNeg) fun q10 =>
  if ¬ (q10 ∈ pL σ ∧ pK σ q10 = 1) then none else
  bd1 (ST_reserveOf x1 σ) fun r16 =>
  some (imax (0 : Int32) ((pP σ q10 1) - r16)))
  else (bd1 (TL_issuerOf x2) fun r25 =>
  if x1 = r25 then (some (1000000000 : Int32))
  else (bd1 (TL_currencyOf x2) fun r48 =>
  bd1 (LN_side x1 r25 r48) fun r51 =>
  if r51 < 0 ∨ 72 ≤ r51.toNatClampNeg then none else
  some (imax (0 : Int32) (gA σ 0 r51.toNatClampNeg))))
set_option maxRecDepth 100000 in
set_option maxHeartbeats 4000000 in
theorem m_ST_fundsOf (l : Launch) (D : va_G) (ad : Nat → Nat) (cs : Nat → ClassId) (eE : Nat × Nat) (x1 : Int32) (x2 : Int32) (σ : ST) {res : Int32} (hf : ST_fundsOf x1 x2 σ = some res) : MS l y_ST_fundsOf (Cond.code y_ST_fundsOf b_ST_fundsOf 4 r_ST_fundsOf :: BIG) 5 108 0 0 (wfm ad cs) D (ttf cs) eE [.ref (ad 1), .int x1, .int x2] σ (PI res σ) := by
  refine MS.of (cc := b_ST_fundsOf) (maxL := 4) (ret := r_ST_fundsOf) (by decide) rfl (Nat.le_of_ble_eq_true rfl) (loc := [(0, .ref (ad 1)), (1, .int x1), (2, .int x2)]) rfl (fun X C Rt => ?_)
  unfold ST_fundsOf at hf
  refine j_iload_n C 2 rfl rfl d_ST_fundsOf_0 ?_
  refine j_if_ne C d_ST_fundsOf_1 rfl (fun c1 => ?_) (fun c1 => ?_)
  · have hf := o_if c1 hf
    refine j_iload_n C 2 rfl rfl d_ST_fundsOf_24 ?_
    obtain ⟨r25, h25, hf⟩ := o_b1 hf
    refine j_callSN (host := "TollLedger") C [.int x2] [] (m_TL_issuerOf _ _ _ _ _ x2 σ h25) (gdN wc_TL_issuerOf) (by decide +kernel) (List.mem_cons_of_mem _ wd_1_1) (List.mem_cons_of_mem _ wd_2_78) hy_TL_issuerOf rfl rfl (by decide) (by decide) (by decide) (by decide) (Nat.le_of_ble_eq_true rfl) d_ST_fundsOf_25 (j_kI (r := r25) (σ1 := σ) ?_)
    refine j_istore_n C rfl (by decide) (loc' := [(3, .int r25), (0, .ref (ad 1)), (1, .int x1), (2, .int x2)]) rfl d_ST_fundsOf_28 ?_
    refine j_iload_n C 2 rfl rfl d_ST_fundsOf_29 ?_
    refine j_iload_n C 0 rfl rfl d_ST_fundsOf_30 ?_
    refine j_icmp_ne C d_ST_fundsOf_31 rfl (fun c31 => ?_) (fun c31 => ?_)
    · have hf := o_if c31 hf
      refine j_iconst C (v := 0) (by decide) d_ST_fundsOf_37 ?_
      refine j_aload_n C 1 rfl rfl d_ST_fundsOf_38 ?_
      refine g_ST_lines C (List.mem_cons_of_mem _ wd_1_113) d_ST_fundsOf_39 ?_
      refine g_LN_balances C (List.mem_cons_of_mem _ wd_1_43) d_ST_fundsOf_42 ?_
      refine j_iload_n C 2 rfl rfl d_ST_fundsOf_45 ?_
      refine j_iload_n C 0 rfl rfl d_ST_fundsOf_46 ?_
      refine j_iload_n C 3 rfl rfl d_ST_fundsOf_47 ?_
      obtain ⟨r48, h48, hf⟩ := o_b1 hf
      refine j_callSN (host := "TollLedger") C [.int x2] [.int r25, .int x1, .ref (ad 9), .int (0 : Int32)] (m_TL_currencyOf _ _ _ _ _ x2 σ h48) (gdN wc_TL_currencyOf) (by decide +kernel) (List.mem_cons_of_mem _ wd_1_1) (List.mem_cons_of_mem _ wd_2_82) hy_TL_currencyOf rfl rfl (by decide) (by decide) (by decide) (by decide) (Nat.le_of_ble_eq_true rfl) d_ST_fundsOf_48 (j_kI (r := r48) (σ1 := σ) ?_)
      obtain ⟨r51, h51, hf⟩ := o_b1 hf
      refine j_callS C [.int x1, .int r25, .int r48] [.ref (ad 9), .int (0 : Int32)] (m_LN_side _ _ _ _ _ x1 r25 r48 σ h51) (gdS wd_2_84 wd_2_48 wd_1_3 wc_LN_side) hy_LN_side rfl rfl (by decide) (by decide) (by decide) (by decide) (Nat.le_of_ble_eq_true rfl) d_ST_fundsOf_51 (j_kI (r := r51) (σ1 := σ) ?_)
      obtain ⟨g54, hf⟩ := o_gn hf
      refine la_bal C g54 d_ST_fundsOf_54 ?_
      refine j_mmax C (List.mem_cons_of_mem _ wd_2_74) (List.mem_cons_of_mem _ wd_2_75) (List.mem_cons_of_mem _ wd_1_14) (List.mem_cons_of_mem _ wm_max) (by decide) (Nat.le_of_ble_eq_true rfl) (by decide) (by decide) d_ST_fundsOf_55 ?_
      have hf := Option.some.inj hf
      subst hf
      exact j_iret C Rt (Nat.zero_le _) (Nat.zero_le _) d_ST_fundsOf_58 ⟨rfl, rfl⟩
    · have hf := o_it c31 hf
      refine j_ldc C (v := 1000000000) (List.mem_cons_of_mem _ wd_2_80) d_ST_fundsOf_34 ?_
      have hf := Option.some.inj hf
      subst hf
      exact j_iret C Rt (Nat.zero_le _) (Nat.zero_le _) d_ST_fundsOf_36 ⟨rfl, rfl⟩
  · have hf := o_it c1 hf
    refine j_iconst C (v := 0) (by decide) d_ST_fundsOf_4 ?_
    refine j_aload_n C 0 rfl rfl d_ST_fundsOf_5 ?_
    refine g_ST_accounts C (List.mem_cons_of_mem _ wd_1_110) d_ST_fundsOf_6 ?_
    refine j_iload_n C 1 rfl rfl d_ST_fundsOf_9 ?_
    obtain ⟨g10, hf⟩ := o_gn hf
    obtain ⟨q10, hq10, hf⟩ := o_b1 hf
    refine la_acc C g10 hq10 d_ST_fundsOf_10 ?_
    obtain ⟨g11, hf⟩ := o_gn hf
    refine gp_Account_coins C (Decidable.not_not.mp g11) (List.mem_cons_of_mem _ wd_1_92) d_ST_fundsOf_11 ?_
    refine j_aload_n C 0 rfl rfl d_ST_fundsOf_14 ?_
    refine j_iload_n C 1 rfl rfl d_ST_fundsOf_15 ?_
    obtain ⟨r16, h16, hf⟩ := o_b1 hf
    refine j_callV (ci := 1) (Cn := "TollLedger$State") (T := T_ST) (N := 6) C [.int x1] [.int (pP σ q10 1), .int (0 : Int32)] (m_ST_reserveOf _ _ _ _ _ x1 σ h16) (gdV wd_2_35 wd_2_37 wp_2 wd_1_2 wc_ST_reserveOf) hy_ST_reserveOf rfl ⟨1, rfl⟩ rfl rfl (by decide) (by decide) (by decide) (by decide) (Nat.le_of_ble_eq_true rfl) d_ST_fundsOf_16 (j_kI (r := r16) (σ1 := σ) ?_)
    refine j_isub C d_ST_fundsOf_19 ?_
    refine j_mmax C (List.mem_cons_of_mem _ wd_2_74) (List.mem_cons_of_mem _ wd_2_75) (List.mem_cons_of_mem _ wd_1_14) (List.mem_cons_of_mem _ wm_max) (by decide) (Nat.le_of_ble_eq_true rfl) (by decide) (by decide) d_ST_fundsOf_20 ?_
    have hf := Option.some.inj hf
    subst hf
    exact j_iret C Rt (Nat.zero_le _) (Nat.zero_le _) d_ST_fundsOf_23 ⟨rfl, rfl⟩
theorem d_ST_mostMovable_0 : decode b_ST_mostMovable 0 = .ok (.ldc2_w 99, 3) := by decide +kernel
theorem d_ST_mostMovable_3 : decode b_ST_mostMovable 3 = .ok (.iload_n 1, 1) := by decide +kernel
theorem d_ST_mostMovable_4 : decode b_ST_mostMovable 4 = .ok (.i2l, 1) := by decide +kernel
theorem d_ST_mostMovable_5 : decode b_ST_mostMovable 5 = .ok (.lmul, 1) := by decide +kernel
theorem d_ST_mostMovable_6 : decode b_ST_mostMovable 6 = .ok (.sipush 1000, 3) := by decide +kernel
theorem d_ST_mostMovable_9 : decode b_ST_mostMovable 9 = .ok (.aload_n 0, 1) := by decide +kernel
theorem d_ST_mostMovable_10 : decode b_ST_mostMovable 10 = .ok (.iload_n 2, 1) := by decide +kernel
theorem d_ST_mostMovable_11 : decode b_ST_mostMovable 11 = .ok (.iload_n 3, 1) := by decide +kernel
theorem d_ST_mostMovable_12 : decode b_ST_mostMovable 12 = .ok (.iload 4, 2) := by decide +kernel
theorem d_ST_mostMovable_14 : decode b_ST_mostMovable 14 = .ok (.invokevirtual 94, 3) := by decide +kernel
theorem d_ST_mostMovable_17 : decode b_ST_mostMovable 17 = .ok (.iadd, 1) := by decide +kernel
theorem d_ST_mostMovable_18 : decode b_ST_mostMovable 18 = .ok (.i2l, 1) := by decide +kernel
theorem d_ST_mostMovable_19 : decode b_ST_mostMovable 19 = .ok (.ldiv, 1) := by decide +kernel
theorem d_ST_mostMovable_20 : decode b_ST_mostMovable 20 = .ok (.l2i, 1) := by decide +kernel
theorem d_ST_mostMovable_21 : decode b_ST_mostMovable 21 = .ok (.ireturn, 1) := by decide +kernel
def ST_mostMovable (x1 : Int32) (x2 : Int32) (x3 : Int32) (x4 : Int32) (σ : ST) : Option (Int32) :=
  bd1 (ST_tollRate x2 x3 x4 σ) fun r14 =>
  if ((1000 : Int32) + r14).toInt64 = 0 then none else
  some ((((1000 : Int64) * x1.toInt64) / ((1000 : Int32) + r14).toInt64).toInt32)
set_option maxRecDepth 100000 in
set_option maxHeartbeats 4000000 in
theorem m_ST_mostMovable (l : Launch) (D : va_G) (ad : Nat → Nat) (cs : Nat → ClassId) (eE : Nat × Nat) (x1 : Int32) (x2 : Int32) (x3 : Int32) (x4 : Int32) (σ : ST) {res : Int32} (hf : ST_mostMovable x1 x2 x3 x4 σ = some res) : MS l y_ST_mostMovable (Cond.code y_ST_mostMovable b_ST_mostMovable 5 r_ST_mostMovable :: BIG) 2 44 0 0 (wfm ad cs) D (ttf cs) eE [.ref (ad 1), .int x1, .int x2, .int x3, .int x4] σ (PI res σ) := by
  refine MS.of (cc := b_ST_mostMovable) (maxL := 5) (ret := r_ST_mostMovable) (by decide) rfl (Nat.le_of_ble_eq_true rfl) (loc := [(0, .ref (ad 1)), (1, .int x1), (2, .int x2), (3, .int x3), (4, .int x4)]) rfl (fun X C Rt => ?_)
  unfold ST_mostMovable at hf
  refine j_ldc2 C (v := 1000) (List.mem_cons_of_mem _ wd_2_167) d_ST_mostMovable_0 ?_
  refine j_iload_n C 1 rfl rfl d_ST_mostMovable_3 ?_
  refine j_i2l C d_ST_mostMovable_4 ?_
  refine j_lmul C d_ST_mostMovable_5 ?_
  refine j_sipush C (v := 1000) (by decide) d_ST_mostMovable_6 ?_
  refine j_aload_n C 0 rfl rfl d_ST_mostMovable_9 ?_
  refine j_iload_n C 2 rfl rfl d_ST_mostMovable_10 ?_
  refine j_iload_n C 3 rfl rfl d_ST_mostMovable_11 ?_
  refine j_iload C 4 rfl d_ST_mostMovable_12 ?_
  obtain ⟨r14, h14, hf⟩ := o_b1 hf
  refine j_callV (ci := 1) (Cn := "TollLedger$State") (T := T_ST) (N := 6) C [.int x2, .int x3, .int x4] [.int (1000 : Int32), .long ((1000 : Int64) * x1.toInt64)] (m_ST_tollRate _ _ _ _ _ x2 x3 x4 σ h14) (gdV wd_2_162 wd_2_164 wp_6 wd_1_2 wc_ST_tollRate) hy_ST_tollRate rfl ⟨1, rfl⟩ rfl rfl (by decide) (by decide) (by decide) (by decide) (Nat.le_of_ble_eq_true rfl) d_ST_mostMovable_14 (j_kI (r := r14) (σ1 := σ) ?_)
  refine j_iadd C d_ST_mostMovable_17 ?_
  refine j_i2l C d_ST_mostMovable_18 ?_
  obtain ⟨g19, hf⟩ := o_gn hf
  refine j_ldiv C g19 d_ST_mostMovable_19 ?_
  refine j_l2i C d_ST_mostMovable_20 ?_
  have hf := Option.some.inj hf
  subst hf
  exact j_iret C Rt (Nat.zero_le _) (Nat.zero_le _) d_ST_mostMovable_21 ⟨rfl, rfl⟩
theorem d_ST_placeOfDeposit_0 : decode b_ST_placeOfDeposit 0 = .ok (.iconst 0, 1) := by decide +kernel
theorem d_ST_placeOfDeposit_1 : decode b_ST_placeOfDeposit 1 = .ok (.istore_n 2, 1) := by decide +kernel
theorem d_ST_placeOfDeposit_2 : decode b_ST_placeOfDeposit 2 = .ok (.iload_n 2, 1) := by decide +kernel
theorem d_ST_placeOfDeposit_3 : decode b_ST_placeOfDeposit 3 = .ok (.aload_n 0, 1) := by decide +kernel
theorem d_ST_placeOfDeposit_4 : decode b_ST_placeOfDeposit 4 = .ok (.getfield 31, 3) := by decide +kernel
theorem d_ST_placeOfDeposit_7 : decode b_ST_placeOfDeposit 7 = .ok (.invokevirtual 48, 3) := by decide +kernel
theorem d_ST_placeOfDeposit_10 : decode b_ST_placeOfDeposit 10 = .ok (.if_icmp .ge 29, 3) := by decide +kernel
theorem d_ST_placeOfDeposit_13 : decode b_ST_placeOfDeposit 13 = .ok (.aload_n 0, 1) := by decide +kernel
theorem d_ST_placeOfDeposit_14 : decode b_ST_placeOfDeposit 14 = .ok (.getfield 31, 3) := by decide +kernel
theorem d_ST_placeOfDeposit_17 : decode b_ST_placeOfDeposit 17 = .ok (.iload_n 2, 1) := by decide +kernel
theorem d_ST_placeOfDeposit_18 : decode b_ST_placeOfDeposit 18 = .ok (.invokevirtual 52, 3) := by decide +kernel
theorem d_ST_placeOfDeposit_21 : decode b_ST_placeOfDeposit 21 = .ok (.checkcast 61, 3) := by decide +kernel
theorem d_ST_placeOfDeposit_24 : decode b_ST_placeOfDeposit 24 = .ok (.getfield 108, 3) := by decide +kernel
theorem d_ST_placeOfDeposit_27 : decode b_ST_placeOfDeposit 27 = .ok (.iload_n 1, 1) := by decide +kernel
theorem d_ST_placeOfDeposit_28 : decode b_ST_placeOfDeposit 28 = .ok (.if_icmp .ne 5, 3) := by decide +kernel
theorem d_ST_placeOfDeposit_31 : decode b_ST_placeOfDeposit 31 = .ok (.iload_n 2, 1) := by decide +kernel
theorem d_ST_placeOfDeposit_32 : decode b_ST_placeOfDeposit 32 = .ok (.ireturn, 1) := by decide +kernel
theorem d_ST_placeOfDeposit_33 : decode b_ST_placeOfDeposit 33 = .ok (.iinc 2 1, 3) := by decide +kernel
theorem d_ST_placeOfDeposit_36 : decode b_ST_placeOfDeposit 36 = .ok (.goto (-34), 3) := by decide +kernel
theorem d_ST_placeOfDeposit_39 : decode b_ST_placeOfDeposit 39 = .ok (.iconst (-1), 1) := by decide +kernel
theorem d_ST_placeOfDeposit_40 : decode b_ST_placeOfDeposit 40 = .ok (.ireturn, 1) := by decide +kernel
def ST_placeOfDeposit_b2 (kb2 : Int32 → Int32 → ST → Option (Int32)) (x1 : Int32) (x2 : Int32) (σ : ST) : Option (Int32) :=
  bd1 (AL_size_DL σ) fun r7 =>
  if r7 ≤ x2 then (some (-1 : Int32))
  else (bd1 (AL_get_DL x2 σ) fun r18 =>
  if ¬ (r18 ∈ pL σ ∧ pK σ r18 = 3) then none else
  if (pP σ r18 0) = x1 then (some x2)
  else (kb2 x1 (x2 + 1) σ))
set_option maxRecDepth 100000 in
set_option maxHeartbeats 4000000 in
theorem w_ST_placeOfDeposit_b2 {X : JX} (C : JC X l D (ttf cs) eE b_ST_placeOfDeposit "TollLedger$State" 3 (Cond.code y_ST_placeOfDeposit b_ST_placeOfDeposit 3 r_ST_placeOfDeposit :: BIG) 3 64 0 0) {σ : ST} {res : Int32} (Rt : JR X (wfm ad cs) 0 0 (PI res σ) r_ST_placeOfDeposit "placeOfDeposit") {kb2 : Int32 → Int32 → ST → Option (Int32)} (hk2 : ∀ (x1 : Int32) (x2 : Int32), kb2 x1 x2 σ = some res → J (wfm ad cs) X 3 0 0 σ 2 [(0, .ref (ad 1)), (1, .int x1), (2, .int x2)] []) (x1 : Int32) (x2 : Int32) (hf : ST_placeOfDeposit_b2 kb2 x1 x2 σ = some res) : J (wfm ad cs) X 3 0 0 σ 2 [(0, .ref (ad 1)), (1, .int x1), (2, .int x2)] [] := by
  unfold ST_placeOfDeposit_b2 at hf
  refine j_iload_n C 2 rfl rfl d_ST_placeOfDeposit_2 ?_
  refine j_aload_n C 0 rfl rfl d_ST_placeOfDeposit_3 ?_
  refine g_ST_deposits C (List.mem_cons_of_mem _ wd_1_120) d_ST_placeOfDeposit_4 ?_
  obtain ⟨r7, h7, hf⟩ := o_b1 hf
  refine j_callV (ci := 9) (Cn := "java/util/ArrayList") (T := T_AL) (N := 3) C [] [.int x2] (m_AL_size_DL _ _ _ _ _ σ h7) (gdV wd_2_54 wd_2_55 wd_2_56 wd_1_6 wc_AL_size) hy_AL_size rfl ⟨7, rfl⟩ rfl rfl (by decide) (by decide) (by decide) (by decide) (Nat.le_of_ble_eq_true rfl) d_ST_placeOfDeposit_7 (j_kI (r := r7) (σ1 := σ) ?_)
  refine j_icmp_ge C d_ST_placeOfDeposit_10 rfl (fun c10 => ?_) (fun c10 => ?_)
  · have hf := o_it c10 hf
    refine j_iconst C (v := -1) (by decide) d_ST_placeOfDeposit_39 ?_
    have hf := Option.some.inj hf
    subst hf
    exact j_iret C Rt (Nat.zero_le _) (Nat.zero_le _) d_ST_placeOfDeposit_40 ⟨rfl, rfl⟩
  · have hf := o_if c10 hf
    refine j_aload_n C 0 rfl rfl d_ST_placeOfDeposit_13 ?_
    refine g_ST_deposits C (List.mem_cons_of_mem _ wd_1_120) d_ST_placeOfDeposit_14 ?_
    refine j_iload_n C 2 rfl rfl d_ST_placeOfDeposit_17 ?_
    obtain ⟨r18, h18, hf⟩ := o_b1 hf
    refine j_callV (ci := 9) (Cn := "java/util/ArrayList") (T := T_AL) (N := 3) C [.int x2] [] (m_AL_get_DL _ _ _ _ _ x2 σ h18) (gdV wd_2_58 wd_2_59 wd_2_60 wd_1_6 wc_AL_get) hy_AL_get rfl ⟨7, rfl⟩ rfl rfl (by decide) (by decide) (by decide) (by decide) (Nat.le_of_ble_eq_true rfl) d_ST_placeOfDeposit_18 (j_kA (r := r18) (σ1 := σ) ?_)
    obtain ⟨g21, hf⟩ := o_gn hf
    refine cc_Deposit C (Decidable.not_not.mp g21) (List.mem_cons_of_mem _ wd_2_73) d_ST_placeOfDeposit_21 ?_
    refine gp_Deposit_id C (Decidable.not_not.mp g21) (List.mem_cons_of_mem _ wd_3_123) d_ST_placeOfDeposit_24 ?_
    refine j_iload_n C 1 rfl rfl d_ST_placeOfDeposit_27 ?_
    refine j_icmp_ne C d_ST_placeOfDeposit_28 rfl (fun c28 => ?_) (fun c28 => ?_)
    · have hf := o_if c28 hf
      refine j_iinc C 2 rfl (v := (x2 + 1)) (inc_p1 _) (by decide) (loc' := [(2, .int (x2 + 1)), (0, .ref (ad 1)), (1, .int x1)]) rfl d_ST_placeOfDeposit_33 ?_
      refine j_goto C d_ST_placeOfDeposit_36 rfl ?_
      refine j_sub [1, 2, 0] rfl ?_
      exact hk2 x1 (x2 + 1) hf
    · have hf := o_it c28 hf
      refine j_iload_n C 2 rfl rfl d_ST_placeOfDeposit_31 ?_
      have hf := Option.some.inj hf
      subst hf
      exact j_iret C Rt (Nat.zero_le _) (Nat.zero_le _) d_ST_placeOfDeposit_32 ⟨rfl, rfl⟩
def ST_placeOfDeposit_L2 : Nat → Int32 → Int32 → ST → Option (Int32)
  | 0, _, _, _ => none
  | N + 1, x1, x2, σ => ST_placeOfDeposit_b2 (fun x1 x2 σ => ST_placeOfDeposit_L2 N x1 x2 σ) x1 x2 σ
theorem w_ST_placeOfDeposit_L2 {X : JX} (C : JC X l D (ttf cs) eE b_ST_placeOfDeposit "TollLedger$State" 3 (Cond.code y_ST_placeOfDeposit b_ST_placeOfDeposit 3 r_ST_placeOfDeposit :: BIG) 3 64 0 0) {σ : ST} {res : Int32} (Rt : JR X (wfm ad cs) 0 0 (PI res σ) r_ST_placeOfDeposit "placeOfDeposit")  (N : Nat) (x1 : Int32) (x2 : Int32) (hf : ST_placeOfDeposit_L2 N x1 x2 σ = some res) : J (wfm ad cs) X 3 0 0 σ 2 [(0, .ref (ad 1)), (1, .int x1), (2, .int x2)] [] := by
  induction N generalizing x1 x2 with
  | zero => exact nomatch hf
  | succ N ih => exact w_ST_placeOfDeposit_b2 C Rt  (fun x1 x2 h => ih x1 x2 h) x1 x2 hf
def ST_placeOfDeposit (x1 : Int32) (σ : ST) : Option (Int32) :=
  ST_placeOfDeposit_L2 FU x1 (0 : Int32) σ
set_option maxRecDepth 100000 in
set_option maxHeartbeats 4000000 in
theorem m_ST_placeOfDeposit (l : Launch) (D : va_G) (ad : Nat → Nat) (cs : Nat → ClassId) (eE : Nat × Nat) (x1 : Int32) (σ : ST) {res : Int32} (hf : ST_placeOfDeposit x1 σ = some res) : MS l y_ST_placeOfDeposit (Cond.code y_ST_placeOfDeposit b_ST_placeOfDeposit 3 r_ST_placeOfDeposit :: BIG) 3 64 0 0 (wfm ad cs) D (ttf cs) eE [.ref (ad 1), .int x1] σ (PI res σ) := by
  refine MS.of (cc := b_ST_placeOfDeposit) (maxL := 3) (ret := r_ST_placeOfDeposit) (by decide) rfl (Nat.le_of_ble_eq_true rfl) (loc := [(0, .ref (ad 1)), (1, .int x1)]) rfl (fun X C Rt => ?_)
  unfold ST_placeOfDeposit at hf
  refine j_iconst C (v := 0) (by decide) d_ST_placeOfDeposit_0 ?_
  refine j_istore_n C rfl (by decide) (loc' := [(2, .int (0 : Int32)), (0, .ref (ad 1)), (1, .int x1)]) rfl d_ST_placeOfDeposit_1 ?_
  refine j_sub [1, 2, 0] rfl ?_
  exact w_ST_placeOfDeposit_L2 C Rt  FU x1 (0 : Int32) hf
theorem d_ST_placeOfOffer_0 : decode b_ST_placeOfOffer 0 = .ok (.iconst 0, 1) := by decide +kernel
theorem d_ST_placeOfOffer_1 : decode b_ST_placeOfOffer 1 = .ok (.istore_n 2, 1) := by decide +kernel
theorem d_ST_placeOfOffer_2 : decode b_ST_placeOfOffer 2 = .ok (.iload_n 2, 1) := by decide +kernel
theorem d_ST_placeOfOffer_3 : decode b_ST_placeOfOffer 3 = .ok (.aload_n 0, 1) := by decide +kernel
theorem d_ST_placeOfOffer_4 : decode b_ST_placeOfOffer 4 = .ok (.getfield 27, 3) := by decide +kernel
theorem d_ST_placeOfOffer_7 : decode b_ST_placeOfOffer 7 = .ok (.invokevirtual 48, 3) := by decide +kernel
theorem d_ST_placeOfOffer_10 : decode b_ST_placeOfOffer 10 = .ok (.if_icmp .ge 29, 3) := by decide +kernel
theorem d_ST_placeOfOffer_13 : decode b_ST_placeOfOffer 13 = .ok (.aload_n 0, 1) := by decide +kernel
theorem d_ST_placeOfOffer_14 : decode b_ST_placeOfOffer 14 = .ok (.getfield 27, 3) := by decide +kernel
theorem d_ST_placeOfOffer_17 : decode b_ST_placeOfOffer 17 = .ok (.iload_n 2, 1) := by decide +kernel
theorem d_ST_placeOfOffer_18 : decode b_ST_placeOfOffer 18 = .ok (.invokevirtual 52, 3) := by decide +kernel
theorem d_ST_placeOfOffer_21 : decode b_ST_placeOfOffer 21 = .ok (.checkcast 56, 3) := by decide +kernel
theorem d_ST_placeOfOffer_24 : decode b_ST_placeOfOffer 24 = .ok (.getfield 105, 3) := by decide +kernel
theorem d_ST_placeOfOffer_27 : decode b_ST_placeOfOffer 27 = .ok (.iload_n 1, 1) := by decide +kernel
theorem d_ST_placeOfOffer_28 : decode b_ST_placeOfOffer 28 = .ok (.if_icmp .ne 5, 3) := by decide +kernel
theorem d_ST_placeOfOffer_31 : decode b_ST_placeOfOffer 31 = .ok (.iload_n 2, 1) := by decide +kernel
theorem d_ST_placeOfOffer_32 : decode b_ST_placeOfOffer 32 = .ok (.ireturn, 1) := by decide +kernel
theorem d_ST_placeOfOffer_33 : decode b_ST_placeOfOffer 33 = .ok (.iinc 2 1, 3) := by decide +kernel
theorem d_ST_placeOfOffer_36 : decode b_ST_placeOfOffer 36 = .ok (.goto (-34), 3) := by decide +kernel
theorem d_ST_placeOfOffer_39 : decode b_ST_placeOfOffer 39 = .ok (.iconst (-1), 1) := by decide +kernel
theorem d_ST_placeOfOffer_40 : decode b_ST_placeOfOffer 40 = .ok (.ireturn, 1) := by decide +kernel
def ST_placeOfOffer_b2 (kb2 : Int32 → Int32 → ST → Option (Int32)) (x1 : Int32) (x2 : Int32) (σ : ST) : Option (Int32) :=
  bd1 (AL_size_OL σ) fun r7 =>
  if r7 ≤ x2 then (some (-1 : Int32))
  else (bd1 (AL_get_OL x2 σ) fun r18 =>
  if ¬ (r18 ∈ pL σ ∧ pK σ r18 = 2) then none else
  if (pP σ r18 0) = x1 then (some x2)
  else (kb2 x1 (x2 + 1) σ))
set_option maxRecDepth 100000 in
set_option maxHeartbeats 4000000 in
theorem w_ST_placeOfOffer_b2 {X : JX} (C : JC X l D (ttf cs) eE b_ST_placeOfOffer "TollLedger$State" 3 (Cond.code y_ST_placeOfOffer b_ST_placeOfOffer 3 r_ST_placeOfOffer :: BIG) 3 64 0 0) {σ : ST} {res : Int32} (Rt : JR X (wfm ad cs) 0 0 (PI res σ) r_ST_placeOfOffer "placeOfOffer") {kb2 : Int32 → Int32 → ST → Option (Int32)} (hk2 : ∀ (x1 : Int32) (x2 : Int32), kb2 x1 x2 σ = some res → J (wfm ad cs) X 3 0 0 σ 2 [(0, .ref (ad 1)), (1, .int x1), (2, .int x2)] []) (x1 : Int32) (x2 : Int32) (hf : ST_placeOfOffer_b2 kb2 x1 x2 σ = some res) : J (wfm ad cs) X 3 0 0 σ 2 [(0, .ref (ad 1)), (1, .int x1), (2, .int x2)] [] := by
  unfold ST_placeOfOffer_b2 at hf
  refine j_iload_n C 2 rfl rfl d_ST_placeOfOffer_2 ?_
  refine j_aload_n C 0 rfl rfl d_ST_placeOfOffer_3 ?_
  refine g_ST_offers C (List.mem_cons_of_mem _ wd_1_116) d_ST_placeOfOffer_4 ?_
  obtain ⟨r7, h7, hf⟩ := o_b1 hf
  refine j_callV (ci := 9) (Cn := "java/util/ArrayList") (T := T_AL) (N := 3) C [] [.int x2] (m_AL_size_OL _ _ _ _ _ σ h7) (gdV wd_2_54 wd_2_55 wd_2_56 wd_1_6 wc_AL_size) hy_AL_size rfl ⟨6, rfl⟩ rfl rfl (by decide) (by decide) (by decide) (by decide) (Nat.le_of_ble_eq_true rfl) d_ST_placeOfOffer_7 (j_kI (r := r7) (σ1 := σ) ?_)
  refine j_icmp_ge C d_ST_placeOfOffer_10 rfl (fun c10 => ?_) (fun c10 => ?_)
  · have hf := o_it c10 hf
    refine j_iconst C (v := -1) (by decide) d_ST_placeOfOffer_39 ?_
    have hf := Option.some.inj hf
    subst hf
    exact j_iret C Rt (Nat.zero_le _) (Nat.zero_le _) d_ST_placeOfOffer_40 ⟨rfl, rfl⟩
  · have hf := o_if c10 hf
    refine j_aload_n C 0 rfl rfl d_ST_placeOfOffer_13 ?_
    refine g_ST_offers C (List.mem_cons_of_mem _ wd_1_116) d_ST_placeOfOffer_14 ?_
    refine j_iload_n C 2 rfl rfl d_ST_placeOfOffer_17 ?_
    obtain ⟨r18, h18, hf⟩ := o_b1 hf
    refine j_callV (ci := 9) (Cn := "java/util/ArrayList") (T := T_AL) (N := 3) C [.int x2] [] (m_AL_get_OL _ _ _ _ _ x2 σ h18) (gdV wd_2_58 wd_2_59 wd_2_60 wd_1_6 wc_AL_get) hy_AL_get rfl ⟨6, rfl⟩ rfl rfl (by decide) (by decide) (by decide) (by decide) (Nat.le_of_ble_eq_true rfl) d_ST_placeOfOffer_18 (j_kA (r := r18) (σ1 := σ) ?_)
    obtain ⟨g21, hf⟩ := o_gn hf
    refine cc_Offer C (Decidable.not_not.mp g21) (List.mem_cons_of_mem _ wd_2_72) d_ST_placeOfOffer_21 ?_
    refine gp_Offer_id C (Decidable.not_not.mp g21) (List.mem_cons_of_mem _ wd_3_12) d_ST_placeOfOffer_24 ?_
    refine j_iload_n C 1 rfl rfl d_ST_placeOfOffer_27 ?_
    refine j_icmp_ne C d_ST_placeOfOffer_28 rfl (fun c28 => ?_) (fun c28 => ?_)
    · have hf := o_if c28 hf
      refine j_iinc C 2 rfl (v := (x2 + 1)) (inc_p1 _) (by decide) (loc' := [(2, .int (x2 + 1)), (0, .ref (ad 1)), (1, .int x1)]) rfl d_ST_placeOfOffer_33 ?_
      refine j_goto C d_ST_placeOfOffer_36 rfl ?_
      refine j_sub [1, 2, 0] rfl ?_
      exact hk2 x1 (x2 + 1) hf
    · have hf := o_it c28 hf
      refine j_iload_n C 2 rfl rfl d_ST_placeOfOffer_31 ?_
      have hf := Option.some.inj hf
      subst hf
      exact j_iret C Rt (Nat.zero_le _) (Nat.zero_le _) d_ST_placeOfOffer_32 ⟨rfl, rfl⟩
def ST_placeOfOffer_L2 : Nat → Int32 → Int32 → ST → Option (Int32)
  | 0, _, _, _ => none
  | N + 1, x1, x2, σ => ST_placeOfOffer_b2 (fun x1 x2 σ => ST_placeOfOffer_L2 N x1 x2 σ) x1 x2 σ
theorem w_ST_placeOfOffer_L2 {X : JX} (C : JC X l D (ttf cs) eE b_ST_placeOfOffer "TollLedger$State" 3 (Cond.code y_ST_placeOfOffer b_ST_placeOfOffer 3 r_ST_placeOfOffer :: BIG) 3 64 0 0) {σ : ST} {res : Int32} (Rt : JR X (wfm ad cs) 0 0 (PI res σ) r_ST_placeOfOffer "placeOfOffer")  (N : Nat) (x1 : Int32) (x2 : Int32) (hf : ST_placeOfOffer_L2 N x1 x2 σ = some res) : J (wfm ad cs) X 3 0 0 σ 2 [(0, .ref (ad 1)), (1, .int x1), (2, .int x2)] [] := by
  induction N generalizing x1 x2 with
  | zero => exact nomatch hf
  | succ N ih => exact w_ST_placeOfOffer_b2 C Rt  (fun x1 x2 h => ih x1 x2 h) x1 x2 hf
def ST_placeOfOffer (x1 : Int32) (σ : ST) : Option (Int32) :=
  ST_placeOfOffer_L2 FU x1 (0 : Int32) σ
set_option maxRecDepth 100000 in
set_option maxHeartbeats 4000000 in
theorem m_ST_placeOfOffer (l : Launch) (D : va_G) (ad : Nat → Nat) (cs : Nat → ClassId) (eE : Nat × Nat) (x1 : Int32) (σ : ST) {res : Int32} (hf : ST_placeOfOffer x1 σ = some res) : MS l y_ST_placeOfOffer (Cond.code y_ST_placeOfOffer b_ST_placeOfOffer 3 r_ST_placeOfOffer :: BIG) 3 64 0 0 (wfm ad cs) D (ttf cs) eE [.ref (ad 1), .int x1] σ (PI res σ) := by
  refine MS.of (cc := b_ST_placeOfOffer) (maxL := 3) (ret := r_ST_placeOfOffer) (by decide) rfl (Nat.le_of_ble_eq_true rfl) (loc := [(0, .ref (ad 1)), (1, .int x1)]) rfl (fun X C Rt => ?_)
  unfold ST_placeOfOffer at hf
  refine j_iconst C (v := 0) (by decide) d_ST_placeOfOffer_0 ?_
  refine j_istore_n C rfl (by decide) (loc' := [(2, .int (0 : Int32)), (0, .ref (ad 1)), (1, .int x1)]) rfl d_ST_placeOfOffer_1 ?_
  refine j_sub [1, 2, 0] rfl ?_
  exact w_ST_placeOfOffer_L2 C Rt  FU x1 (0 : Int32) hf
end
