section
variable {l : Launch} {D : va_G} {ad : Nat → Nat} {cs : Nat → ClassId} {eE : Nat × Nat}
theorem d_OF_init_0 : decode b_OF_init 0 = .ok (.aload_n 0, 1) := by decide +kernel
theorem d_OF_init_1 : decode b_OF_init 1 = .ok (.invokespecial 1, 3) := by decide +kernel
theorem d_OF_init_4 : decode b_OF_init 4 = .ok (.return_, 1) := by decide +kernel
def OF_init (x0 : Nat) : Option (Unit) :=
  some ()
set_option maxRecDepth 100000 in
set_option maxHeartbeats 4000000 in
theorem m_OF_init (l : Launch) (D : va_G) (ad : Nat → Nat) (cs : Nat → ClassId) (eE : Nat × Nat) (x0 : Nat) (σ : ST) {res : Unit} (hf : OF_init x0 = some res) : MS l y_OF_init (Cond.code y_OF_init b_OF_init 1 r_OF_init :: BIG) 1 26 0 0 (wfm ad cs) D (ttf cs) eE [.ref x0] σ (PV σ) := by
  refine MS.of (cc := b_OF_init) (maxL := 1) (ret := r_OF_init) (by decide) rfl (Nat.le_of_ble_eq_true rfl) (loc := [(0, .ref x0)]) rfl (fun X C Rt => ?_)
  unfold OF_init at hf
  refine j_aload_n C 0 rfl rfl d_OF_init_0 ?_
  refine j_objInit C (List.mem_cons_of_mem _ wd_3_10) (List.mem_cons_of_mem _ wd_1_26) (List.mem_cons_of_mem _ wc_OJ_init) (by decide) (Nat.le_of_ble_eq_true rfl) d_OF_init_1 ?_
  have hf := Option.some.inj hf
  subst hf
  exact j_vret C Rt (Nat.zero_le _) (Nat.zero_le _) d_OF_init_4 ⟨rfl, rfl⟩
theorem d_DP_init_0 : decode b_DP_init 0 = .ok (.aload_n 0, 1) := by decide +kernel
theorem d_DP_init_1 : decode b_DP_init 1 = .ok (.invokespecial 1, 3) := by decide +kernel
theorem d_DP_init_4 : decode b_DP_init 4 = .ok (.return_, 1) := by decide +kernel
def DP_init (x0 : Nat) : Option (Unit) :=
  some ()
set_option maxRecDepth 100000 in
set_option maxHeartbeats 4000000 in
theorem m_DP_init (l : Launch) (D : va_G) (ad : Nat → Nat) (cs : Nat → ClassId) (eE : Nat × Nat) (x0 : Nat) (σ : ST) {res : Unit} (hf : DP_init x0 = some res) : MS l y_DP_init (Cond.code y_DP_init b_DP_init 1 r_DP_init :: BIG) 1 26 0 0 (wfm ad cs) D (ttf cs) eE [.ref x0] σ (PV σ) := by
  refine MS.of (cc := b_DP_init) (maxL := 1) (ret := r_DP_init) (by decide) rfl (Nat.le_of_ble_eq_true rfl) (loc := [(0, .ref x0)]) rfl (fun X C Rt => ?_)
  unfold DP_init at hf
  refine j_aload_n C 0 rfl rfl d_DP_init_0 ?_
  refine j_objInit C (List.mem_cons_of_mem _ wd_3_121) (List.mem_cons_of_mem _ wd_1_26) (List.mem_cons_of_mem _ wc_OJ_init) (by decide) (Nat.le_of_ble_eq_true rfl) d_DP_init_1 ?_
  have hf := Option.some.inj hf
  subst hf
  exact j_vret C Rt (Nat.zero_le _) (Nat.zero_le _) d_DP_init_4 ⟨rfl, rfl⟩
theorem d_AC_init_0 : decode b_AC_init 0 = .ok (.aload_n 0, 1) := by decide +kernel
theorem d_AC_init_1 : decode b_AC_init 1 = .ok (.invokespecial 1, 3) := by decide +kernel
theorem d_AC_init_4 : decode b_AC_init 4 = .ok (.aload_n 0, 1) := by decide +kernel
theorem d_AC_init_5 : decode b_AC_init 5 = .ok (.iconst 1, 1) := by decide +kernel
theorem d_AC_init_6 : decode b_AC_init 6 = .ok (.putfield 7, 3) := by decide +kernel
theorem d_AC_init_9 : decode b_AC_init 9 = .ok (.return_, 1) := by decide +kernel
def AC_init (x0 : Nat) (σ : ST) : Option (ST) :=
  if ¬ (x0 ∈ pL σ ∧ pK σ x0 = 1) then none else
  nmS (sP σ x0 2 (1 : Int32)) fun σ6 =>
  some σ6
set_option maxRecDepth 100000 in
set_option maxHeartbeats 4000000 in
theorem m_AC_init (l : Launch) (D : va_G) (ad : Nat → Nat) (cs : Nat → ClassId) (eE : Nat × Nat) (x0 : Nat) (σ : ST) {res : ST} (hf : AC_init x0 σ = some res) : MS l y_AC_init (Cond.code y_AC_init b_AC_init 1 r_AC_init :: BIG) 1 26 0 0 (wfm ad cs) D (ttf cs) eE [.ref x0] σ (PV res) := by
  refine MS.of (cc := b_AC_init) (maxL := 1) (ret := r_AC_init) (by decide) rfl (Nat.le_of_ble_eq_true rfl) (loc := [(0, .ref x0)]) rfl (fun X C Rt => ?_)
  unfold AC_init at hf
  refine j_aload_n C 0 rfl rfl d_AC_init_0 ?_
  refine j_objInit C (List.mem_cons_of_mem _ wd_1_88) (List.mem_cons_of_mem _ wd_1_26) (List.mem_cons_of_mem _ wc_OJ_init) (by decide) (Nat.le_of_ble_eq_true rfl) d_AC_init_1 ?_
  refine j_aload_n C 0 rfl rfl d_AC_init_4 ?_
  refine j_iconst C (v := 1) (by decide) d_AC_init_5 ?_
  obtain ⟨g6, hf⟩ := o_gn hf
  obtain ⟨σ6, eσ6, hf⟩ := o_nmS hf
  refine pp_Account_number C (Decidable.not_not.mp g6) eσ6 (List.mem_cons_of_mem _ wd_1_95) d_AC_init_6 ?_
  have hf := Option.some.inj hf
  subst hf
  exact j_vret C Rt (Nat.zero_le _) (Nat.zero_le _) d_AC_init_9 ⟨rfl, rfl⟩
theorem d_AS_newLength_0 : decode b_AS_newLength 0 = .ok (.iload_n 0, 1) := by decide +kernel
theorem d_AS_newLength_1 : decode b_AS_newLength 1 = .ok (.iload_n 1, 1) := by decide +kernel
theorem d_AS_newLength_2 : decode b_AS_newLength 2 = .ok (.iload_n 2, 1) := by decide +kernel
theorem d_AS_newLength_3 : decode b_AS_newLength 3 = .ok (.invokestatic 194, 3) := by decide +kernel
theorem d_AS_newLength_6 : decode b_AS_newLength 6 = .ok (.iadd, 1) := by decide +kernel
theorem d_AS_newLength_7 : decode b_AS_newLength 7 = .ok (.istore_n 3, 1) := by decide +kernel
theorem d_AS_newLength_8 : decode b_AS_newLength 8 = .ok (.iconst 0, 1) := by decide +kernel
theorem d_AS_newLength_9 : decode b_AS_newLength 9 = .ok (.iload_n 3, 1) := by decide +kernel
theorem d_AS_newLength_10 : decode b_AS_newLength 10 = .ok (.if_icmp .ge 11, 3) := by decide +kernel
theorem d_AS_newLength_13 : decode b_AS_newLength 13 = .ok (.iload_n 3, 1) := by decide +kernel
theorem d_AS_newLength_14 : decode b_AS_newLength 14 = .ok (.ldc 200, 2) := by decide +kernel
theorem d_AS_newLength_16 : decode b_AS_newLength 16 = .ok (.if_icmp .gt 5, 3) := by decide +kernel
theorem d_AS_newLength_19 : decode b_AS_newLength 19 = .ok (.iload_n 3, 1) := by decide +kernel
theorem d_AS_newLength_20 : decode b_AS_newLength 20 = .ok (.ireturn, 1) := by decide +kernel
theorem d_AS_newLength_21 : decode b_AS_newLength 21 = .ok (.iload_n 0, 1) := by decide +kernel
theorem d_AS_newLength_22 : decode b_AS_newLength 22 = .ok (.iload_n 1, 1) := by decide +kernel
theorem d_AS_newLength_23 : decode b_AS_newLength 23 = .ok (.invokestatic 201, 3) := by decide +kernel
theorem d_AS_newLength_26 : decode b_AS_newLength 26 = .ok (.ireturn, 1) := by decide +kernel
def AS_newLength_c21 (x0 : Int32) (x1 : Int32) : Option (Int32) :=
  none
set_option maxRecDepth 100000 in
set_option maxHeartbeats 4000000 in
theorem w_AS_newLength_c21 {X : JX} (C : JC X l D (ttf cs) eE b_AS_newLength "jdk/internal/util/ArraysSupport" 4 (Cond.code y_AS_newLength b_AS_newLength 4 r_AS_newLength :: BIG) 1 23 0 0) {σ : ST} {res : Int32} (Rt : JR X (wfm ad cs) 0 0 (PI res σ) r_AS_newLength "newLength")  (x0 : Int32) (x1 : Int32) (hf : AS_newLength_c21 x0 x1 = some res) : J (wfm ad cs) X 4 0 0 σ 21 [(0, .int x0), (1, .int x1)] [] := by
  unfold AS_newLength_c21 at hf
  refine j_iload_n C 0 rfl rfl d_AS_newLength_21 ?_
  refine j_iload_n C 1 rfl rfl d_AS_newLength_22 ?_
  exact nomatch hf
def AS_newLength (x0 : Int32) (x1 : Int32) (x2 : Int32) : Option (Int32) :=
  nmI (x0 + (imax x1 x2)) fun x3_7 =>
  if x3_7 ≤ (0 : Int32) then (AS_newLength_c21 x0 x1)
  else (if (2147483639 : Int32) < x3_7 then (AS_newLength_c21 x0 x1)
  else (some x3_7))
set_option maxRecDepth 100000 in
set_option maxHeartbeats 4000000 in
theorem m_AS_newLength (l : Launch) (D : va_G) (ad : Nat → Nat) (cs : Nat → ClassId) (eE : Nat × Nat) (x0 : Int32) (x1 : Int32) (x2 : Int32) (σ : ST) {res : Int32} (hf : AS_newLength x0 x1 x2 = some res) : MS l y_AS_newLength (Cond.code y_AS_newLength b_AS_newLength 4 r_AS_newLength :: BIG) 1 23 0 0 (wfm ad cs) D (ttf cs) eE [.int x0, .int x1, .int x2] σ (PI res σ) := by
  refine MS.of (cc := b_AS_newLength) (maxL := 4) (ret := r_AS_newLength) (by decide) rfl (Nat.le_of_ble_eq_true rfl) (loc := [(0, .int x0), (1, .int x1), (2, .int x2)]) rfl (fun X C Rt => ?_)
  unfold AS_newLength at hf
  refine j_iload_n C 0 rfl rfl d_AS_newLength_0 ?_
  refine j_iload_n C 1 rfl rfl d_AS_newLength_1 ?_
  refine j_iload_n C 2 rfl rfl d_AS_newLength_2 ?_
  refine j_mmax C (List.mem_cons_of_mem _ wd_3_65) (List.mem_cons_of_mem _ wd_2_75) (List.mem_cons_of_mem _ wd_1_14) (List.mem_cons_of_mem _ wm_max) (by decide) (Nat.le_of_ble_eq_true rfl) (by decide) (by decide) d_AS_newLength_3 ?_
  refine j_iadd C d_AS_newLength_6 ?_
  obtain ⟨x3_7, ex3_7, hf⟩ := o_nmI hf
  refine j_topI ex3_7 ?_
  refine j_istore_n C rfl (by decide) (loc' := [(3, .int x3_7), (0, .int x0), (1, .int x1), (2, .int x2)]) rfl d_AS_newLength_7 ?_
  refine j_iconst C (v := 0) (by decide) d_AS_newLength_8 ?_
  refine j_iload_n C 0 rfl rfl d_AS_newLength_9 ?_
  refine j_icmp_ge C d_AS_newLength_10 rfl (fun c10 => ?_) (fun c10 => ?_)
  · have hf := o_it c10 hf
    refine j_sub [1, 2] rfl ?_
    exact w_AS_newLength_c21 C Rt  x0 x1 hf
  · have hf := o_if c10 hf
    refine j_iload_n C 0 rfl rfl d_AS_newLength_13 ?_
    refine j_ldc C (v := 2147483639) (List.mem_cons_of_mem _ wd_3_66) d_AS_newLength_14 ?_
    refine j_icmp_gt C d_AS_newLength_16 rfl (fun c16 => ?_) (fun c16 => ?_)
    · have hf := o_it c16 hf
      refine j_sub [1, 2] rfl ?_
      exact w_AS_newLength_c21 C Rt  x0 x1 hf
    · have hf := o_if c16 hf
      refine j_iload_n C 0 rfl rfl d_AS_newLength_19 ?_
      have hf := Option.some.inj hf
      subst hf
      exact j_iret C Rt (Nat.zero_le _) (Nat.zero_le _) d_AS_newLength_20 ⟨rfl, rfl⟩
theorem d_ST_addOffer_0 : decode b_ST_addOffer 0 = .ok (.new 56, 3) := by decide +kernel
theorem d_ST_addOffer_3 : decode b_ST_addOffer 3 = .ok (.dup, 1) := by decide +kernel
theorem d_ST_addOffer_4 : decode b_ST_addOffer 4 = .ok (.invokespecial 109, 3) := by decide +kernel
theorem d_ST_addOffer_7 : decode b_ST_addOffer 7 = .ok (.astore 6, 2) := by decide +kernel
theorem d_ST_addOffer_9 : decode b_ST_addOffer 9 = .ok (.aload_n 0, 1) := by decide +kernel
theorem d_ST_addOffer_10 : decode b_ST_addOffer 10 = .ok (.dup, 1) := by decide +kernel
theorem d_ST_addOffer_11 : decode b_ST_addOffer 11 = .ok (.getfield 110, 3) := by decide +kernel
theorem d_ST_addOffer_14 : decode b_ST_addOffer 14 = .ok (.iconst 1, 1) := by decide +kernel
theorem d_ST_addOffer_15 : decode b_ST_addOffer 15 = .ok (.iadd, 1) := by decide +kernel
theorem d_ST_addOffer_16 : decode b_ST_addOffer 16 = .ok (.putfield 110, 3) := by decide +kernel
theorem d_ST_addOffer_19 : decode b_ST_addOffer 19 = .ok (.aload 6, 2) := by decide +kernel
theorem d_ST_addOffer_21 : decode b_ST_addOffer 21 = .ok (.aload_n 0, 1) := by decide +kernel
theorem d_ST_addOffer_22 : decode b_ST_addOffer 22 = .ok (.getfield 110, 3) := by decide +kernel
theorem d_ST_addOffer_25 : decode b_ST_addOffer 25 = .ok (.putfield 105, 3) := by decide +kernel
theorem d_ST_addOffer_28 : decode b_ST_addOffer 28 = .ok (.aload 6, 2) := by decide +kernel
theorem d_ST_addOffer_30 : decode b_ST_addOffer 30 = .ok (.iload_n 1, 1) := by decide +kernel
theorem d_ST_addOffer_31 : decode b_ST_addOffer 31 = .ok (.putfield 58, 3) := by decide +kernel
theorem d_ST_addOffer_34 : decode b_ST_addOffer 34 = .ok (.aload 6, 2) := by decide +kernel
theorem d_ST_addOffer_36 : decode b_ST_addOffer 36 = .ok (.iload_n 2, 1) := by decide +kernel
theorem d_ST_addOffer_37 : decode b_ST_addOffer 37 = .ok (.putfield 113, 3) := by decide +kernel
theorem d_ST_addOffer_40 : decode b_ST_addOffer 40 = .ok (.aload 6, 2) := by decide +kernel
theorem d_ST_addOffer_42 : decode b_ST_addOffer 42 = .ok (.iload_n 3, 1) := by decide +kernel
theorem d_ST_addOffer_43 : decode b_ST_addOffer 43 = .ok (.putfield 116, 3) := by decide +kernel
theorem d_ST_addOffer_46 : decode b_ST_addOffer 46 = .ok (.aload 6, 2) := by decide +kernel
theorem d_ST_addOffer_48 : decode b_ST_addOffer 48 = .ok (.iload 4, 2) := by decide +kernel
theorem d_ST_addOffer_50 : decode b_ST_addOffer 50 = .ok (.putfield 119, 3) := by decide +kernel
theorem d_ST_addOffer_53 : decode b_ST_addOffer 53 = .ok (.aload 6, 2) := by decide +kernel
theorem d_ST_addOffer_55 : decode b_ST_addOffer 55 = .ok (.iload 5, 2) := by decide +kernel
theorem d_ST_addOffer_57 : decode b_ST_addOffer 57 = .ok (.putfield 122, 3) := by decide +kernel
theorem d_ST_addOffer_60 : decode b_ST_addOffer 60 = .ok (.aload_n 0, 1) := by decide +kernel
theorem d_ST_addOffer_61 : decode b_ST_addOffer 61 = .ok (.getfield 27, 3) := by decide +kernel
theorem d_ST_addOffer_64 : decode b_ST_addOffer 64 = .ok (.aload 6, 2) := by decide +kernel
theorem d_ST_addOffer_66 : decode b_ST_addOffer 66 = .ok (.invokevirtual 125, 3) := by decide +kernel
theorem d_ST_addOffer_69 : decode b_ST_addOffer 69 = .ok (.pop, 1) := by decide +kernel
theorem d_ST_addOffer_70 : decode b_ST_addOffer 70 = .ok (.return_, 1) := by decide +kernel
def ST_addOffer (x1 : Int32) (x2 : Int32) (x3 : Int32) (x4 : Int32) (x5 : Int32) (s0 : Nat) (σ : ST) : Option (Nat × ST) :=
  if ¬ (s0 ∈ pL σ ∧ pK σ s0 = 2) then none else
  bd1 (OF_init s0) fun _ =>
  nmS (sI σ 7 ((gI σ 7) + (1 : Int32))) fun σ16 =>
  if ¬ (s0 ∈ pL σ16 ∧ pK σ16 s0 = 2) then none else
  nmS (sP σ16 s0 0 (gI σ16 7)) fun σ25 =>
  if ¬ (s0 ∈ pL σ25 ∧ pK σ25 s0 = 2) then none else
  nmS (sP σ25 s0 1 x1) fun σ31 =>
  if ¬ (s0 ∈ pL σ31 ∧ pK σ31 s0 = 2) then none else
  nmS (sP σ31 s0 2 x2) fun σ37 =>
  if ¬ (s0 ∈ pL σ37 ∧ pK σ37 s0 = 2) then none else
  nmS (sP σ37 s0 3 x3) fun σ43 =>
  if ¬ (s0 ∈ pL σ43 ∧ pK σ43 s0 = 2) then none else
  nmS (sP σ43 s0 4 x4) fun σ50 =>
  if ¬ (s0 ∈ pL σ50 ∧ pK σ50 s0 = 2) then none else
  nmS (sP σ50 s0 5 x5) fun σ57 =>
  some (s0, σ57)
set_option maxRecDepth 100000 in
set_option maxHeartbeats 4000000 in
theorem w_ST_addOffer_e {X : JX} (C : JC X l D (ttf cs) eE b_ST_addOffer "TollLedger$State" 7 (Cond.code y_ST_addOffer b_ST_addOffer 7 r_ST_addOffer :: BIG) 7 157 2 21) {res : Nat × ST} {P : Option Value → ST → Prop} (Rt : JR X (wfm ad cs) 2 21 P r_ST_addOffer "addOffer") (hx : ∀ (y1 : Nat) (σ : ST), (y1, σ) = res → J (wfm ad cs) X 7 1 6 σ 66 [] [.ref y1, .ref (ad 6)]) (x1 : Int32) (x2 : Int32) (x3 : Int32) (x4 : Int32) (x5 : Int32) (s0 : Nat) (σ : ST) (hf : ST_addOffer x1 x2 x3 x4 x5 s0 σ = some res) : J (wfm ad cs) X 7 1 6 σ 3 [(0, .ref (ad 1)), (1, .int x1), (2, .int x2), (3, .int x3), (4, .int x4), (5, .int x5)] [.ref s0] := by
  unfold ST_addOffer at hf
  refine j_dup C rfl d_ST_addOffer_3 ?_
  obtain ⟨g4, hf⟩ := o_gn hf
  obtain ⟨z4, h4, hf⟩ := o_b1 hf
  refine j_callIN (host := "TollLedger") C [] [.ref s0] (m_OF_init _ _ _ _ _ s0 σ h4) (gdN wc_OF_init) (by decide +kernel) (List.mem_cons_of_mem _ wd_1_16) (List.mem_cons_of_mem _ wd_3_8) rfl hy_OF_init.2 rfl rfl (by decide) (by decide) (by decide) (by decide) (Nat.le_of_ble_eq_true rfl) d_ST_addOffer_4 (j_kV (σ1 := σ) ?_)
  refine j_astore C (by decide) (loc' := [(6, .ref s0), (0, .ref (ad 1)), (1, .int x1), (2, .int x2), (3, .int x3), (4, .int x4), (5, .int x5)]) rfl d_ST_addOffer_7 ?_
  refine j_aload_n C 1 rfl rfl d_ST_addOffer_9 ?_
  refine j_dup C rfl d_ST_addOffer_10 ?_
  refine g_ST_lastOfferId C (List.mem_cons_of_mem _ wd_1_123) d_ST_addOffer_11 ?_
  refine j_iconst C (v := 1) (by decide) d_ST_addOffer_14 ?_
  refine j_iadd C d_ST_addOffer_15 ?_
  obtain ⟨σ16, eσ16, hf⟩ := o_nmS hf
  refine p_ST_lastOfferId C eσ16 (List.mem_cons_of_mem _ wd_1_123) d_ST_addOffer_16 ?_
  refine j_aload C 0 rfl d_ST_addOffer_19 ?_
  refine j_aload_n C 1 rfl rfl d_ST_addOffer_21 ?_
  refine g_ST_lastOfferId C (List.mem_cons_of_mem _ wd_1_123) d_ST_addOffer_22 ?_
  obtain ⟨g25, hf⟩ := o_gn hf
  obtain ⟨σ25, eσ25, hf⟩ := o_nmS hf
  refine pp_Offer_id C (Decidable.not_not.mp g25) eσ25 (List.mem_cons_of_mem _ wd_3_12) d_ST_addOffer_25 ?_
  refine j_aload C 0 rfl d_ST_addOffer_28 ?_
  refine j_iload_n C 2 rfl rfl d_ST_addOffer_30 ?_
  obtain ⟨g31, hf⟩ := o_gn hf
  obtain ⟨σ31, eσ31, hf⟩ := o_nmS hf
  refine pp_Offer_owner C (Decidable.not_not.mp g31) eσ31 (List.mem_cons_of_mem _ wd_3_14) d_ST_addOffer_31 ?_
  refine j_aload C 0 rfl d_ST_addOffer_34 ?_
  refine j_iload_n C 3 rfl rfl d_ST_addOffer_36 ?_
  obtain ⟨g37, hf⟩ := o_gn hf
  obtain ⟨σ37, eσ37, hf⟩ := o_nmS hf
  refine pp_Offer_wants C (Decidable.not_not.mp g37) eσ37 (List.mem_cons_of_mem _ wd_3_21) d_ST_addOffer_37 ?_
  refine j_aload C 0 rfl d_ST_addOffer_40 ?_
  refine j_iload_n C 4 rfl rfl d_ST_addOffer_42 ?_
  obtain ⟨g43, hf⟩ := o_gn hf
  obtain ⟨σ43, eσ43, hf⟩ := o_nmS hf
  refine pp_Offer_w C (Decidable.not_not.mp g43) eσ43 (List.mem_cons_of_mem _ wd_3_24) d_ST_addOffer_43 ?_
  refine j_aload C 0 rfl d_ST_addOffer_46 ?_
  refine j_iload C 5 rfl d_ST_addOffer_48 ?_
  obtain ⟨g50, hf⟩ := o_gn hf
  obtain ⟨σ50, eσ50, hf⟩ := o_nmS hf
  refine pp_Offer_gives C (Decidable.not_not.mp g50) eσ50 (List.mem_cons_of_mem _ wd_3_28) d_ST_addOffer_50 ?_
  refine j_aload C 0 rfl d_ST_addOffer_53 ?_
  refine j_iload C 6 rfl d_ST_addOffer_55 ?_
  obtain ⟨g57, hf⟩ := o_gn hf
  obtain ⟨σ57, eσ57, hf⟩ := o_nmS hf
  refine pp_Offer_g C (Decidable.not_not.mp g57) eσ57 (List.mem_cons_of_mem _ wd_3_31) d_ST_addOffer_57 ?_
  refine j_aload_n C 1 rfl rfl d_ST_addOffer_60 ?_
  refine g_ST_offers C (List.mem_cons_of_mem _ wd_1_116) d_ST_addOffer_61 ?_
  refine j_aload C 0 rfl d_ST_addOffer_64 ?_
  refine j_sub [] rfl ?_
  exact hx s0 σ57 (Option.some.inj hf)
theorem d_ST_addDeposit_0 : decode b_ST_addDeposit 0 = .ok (.new 61, 3) := by decide +kernel
theorem d_ST_addDeposit_3 : decode b_ST_addDeposit 3 = .ok (.dup, 1) := by decide +kernel
theorem d_ST_addDeposit_4 : decode b_ST_addDeposit 4 = .ok (.invokespecial 129, 3) := by decide +kernel
theorem d_ST_addDeposit_7 : decode b_ST_addDeposit 7 = .ok (.astore 6, 2) := by decide +kernel
theorem d_ST_addDeposit_9 : decode b_ST_addDeposit 9 = .ok (.aload_n 0, 1) := by decide +kernel
theorem d_ST_addDeposit_10 : decode b_ST_addDeposit 10 = .ok (.dup, 1) := by decide +kernel
theorem d_ST_addDeposit_11 : decode b_ST_addDeposit 11 = .ok (.getfield 130, 3) := by decide +kernel
theorem d_ST_addDeposit_14 : decode b_ST_addDeposit 14 = .ok (.iconst 1, 1) := by decide +kernel
theorem d_ST_addDeposit_15 : decode b_ST_addDeposit 15 = .ok (.iadd, 1) := by decide +kernel
theorem d_ST_addDeposit_16 : decode b_ST_addDeposit 16 = .ok (.putfield 130, 3) := by decide +kernel
theorem d_ST_addDeposit_19 : decode b_ST_addDeposit 19 = .ok (.aload 6, 2) := by decide +kernel
theorem d_ST_addDeposit_21 : decode b_ST_addDeposit 21 = .ok (.aload_n 0, 1) := by decide +kernel
theorem d_ST_addDeposit_22 : decode b_ST_addDeposit 22 = .ok (.getfield 130, 3) := by decide +kernel
theorem d_ST_addDeposit_25 : decode b_ST_addDeposit 25 = .ok (.putfield 108, 3) := by decide +kernel
theorem d_ST_addDeposit_28 : decode b_ST_addDeposit 28 = .ok (.aload 6, 2) := by decide +kernel
theorem d_ST_addDeposit_30 : decode b_ST_addDeposit 30 = .ok (.iload_n 1, 1) := by decide +kernel
theorem d_ST_addDeposit_31 : decode b_ST_addDeposit 31 = .ok (.putfield 63, 3) := by decide +kernel
theorem d_ST_addDeposit_34 : decode b_ST_addDeposit 34 = .ok (.aload 6, 2) := by decide +kernel
theorem d_ST_addDeposit_36 : decode b_ST_addDeposit 36 = .ok (.iload_n 2, 1) := by decide +kernel
theorem d_ST_addDeposit_37 : decode b_ST_addDeposit 37 = .ok (.putfield 133, 3) := by decide +kernel
theorem d_ST_addDeposit_40 : decode b_ST_addDeposit 40 = .ok (.aload 6, 2) := by decide +kernel
theorem d_ST_addDeposit_42 : decode b_ST_addDeposit 42 = .ok (.iload_n 3, 1) := by decide +kernel
theorem d_ST_addDeposit_43 : decode b_ST_addDeposit 43 = .ok (.putfield 136, 3) := by decide +kernel
theorem d_ST_addDeposit_46 : decode b_ST_addDeposit 46 = .ok (.aload 6, 2) := by decide +kernel
theorem d_ST_addDeposit_48 : decode b_ST_addDeposit 48 = .ok (.iload 4, 2) := by decide +kernel
theorem d_ST_addDeposit_50 : decode b_ST_addDeposit 50 = .ok (.putfield 137, 3) := by decide +kernel
theorem d_ST_addDeposit_53 : decode b_ST_addDeposit 53 = .ok (.aload 6, 2) := by decide +kernel
theorem d_ST_addDeposit_55 : decode b_ST_addDeposit 55 = .ok (.iload 5, 2) := by decide +kernel
theorem d_ST_addDeposit_57 : decode b_ST_addDeposit 57 = .ok (.putfield 140, 3) := by decide +kernel
theorem d_ST_addDeposit_60 : decode b_ST_addDeposit 60 = .ok (.aload_n 0, 1) := by decide +kernel
theorem d_ST_addDeposit_61 : decode b_ST_addDeposit 61 = .ok (.getfield 31, 3) := by decide +kernel
theorem d_ST_addDeposit_64 : decode b_ST_addDeposit 64 = .ok (.aload 6, 2) := by decide +kernel
theorem d_ST_addDeposit_66 : decode b_ST_addDeposit 66 = .ok (.invokevirtual 125, 3) := by decide +kernel
theorem d_ST_addDeposit_69 : decode b_ST_addDeposit 69 = .ok (.pop, 1) := by decide +kernel
theorem d_ST_addDeposit_70 : decode b_ST_addDeposit 70 = .ok (.return_, 1) := by decide +kernel
def ST_addDeposit (x1 : Int32) (x2 : Int32) (x3 : Int32) (x4 : Int32) (x5 : Int32) (s0 : Nat) (σ : ST) : Option (Nat × ST) :=
  if ¬ (s0 ∈ pL σ ∧ pK σ s0 = 3) then none else
  bd1 (DP_init s0) fun _ =>
  nmS (sI σ 8 ((gI σ 8) + (1 : Int32))) fun σ16 =>
  if ¬ (s0 ∈ pL σ16 ∧ pK σ16 s0 = 3) then none else
  nmS (sP σ16 s0 0 (gI σ16 8)) fun σ25 =>
  if ¬ (s0 ∈ pL σ25 ∧ pK σ25 s0 = 3) then none else
  nmS (sP σ25 s0 1 x1) fun σ31 =>
  if ¬ (s0 ∈ pL σ31 ∧ pK σ31 s0 = 3) then none else
  nmS (sP σ31 s0 2 x2) fun σ37 =>
  if ¬ (s0 ∈ pL σ37 ∧ pK σ37 s0 = 3) then none else
  nmS (sP σ37 s0 3 x3) fun σ43 =>
  if ¬ (s0 ∈ pL σ43 ∧ pK σ43 s0 = 3) then none else
  nmS (sP σ43 s0 4 x4) fun σ50 =>
  if ¬ (s0 ∈ pL σ50 ∧ pK σ50 s0 = 3) then none else
  nmS (sP σ50 s0 5 x5) fun σ57 =>
  some (s0, σ57)
set_option maxRecDepth 100000 in
set_option maxHeartbeats 4000000 in
theorem w_ST_addDeposit_e {X : JX} (C : JC X l D (ttf cs) eE b_ST_addDeposit "TollLedger$State" 7 (Cond.code y_ST_addDeposit b_ST_addDeposit 7 r_ST_addDeposit :: BIG) 7 157 2 21) {res : Nat × ST} {P : Option Value → ST → Prop} (Rt : JR X (wfm ad cs) 2 21 P r_ST_addDeposit "addDeposit") (hx : ∀ (y1 : Nat) (σ : ST), (y1, σ) = res → J (wfm ad cs) X 7 1 6 σ 66 [] [.ref y1, .ref (ad 7)]) (x1 : Int32) (x2 : Int32) (x3 : Int32) (x4 : Int32) (x5 : Int32) (s0 : Nat) (σ : ST) (hf : ST_addDeposit x1 x2 x3 x4 x5 s0 σ = some res) : J (wfm ad cs) X 7 1 6 σ 3 [(0, .ref (ad 1)), (1, .int x1), (2, .int x2), (3, .int x3), (4, .int x4), (5, .int x5)] [.ref s0] := by
  unfold ST_addDeposit at hf
  refine j_dup C rfl d_ST_addDeposit_3 ?_
  obtain ⟨g4, hf⟩ := o_gn hf
  obtain ⟨z4, h4, hf⟩ := o_b1 hf
  refine j_callIN (host := "TollLedger") C [] [.ref s0] (m_DP_init _ _ _ _ _ s0 σ h4) (gdN wc_DP_init) (by decide +kernel) (List.mem_cons_of_mem _ wd_1_19) (List.mem_cons_of_mem _ wd_3_119) rfl hy_DP_init.2 rfl rfl (by decide) (by decide) (by decide) (by decide) (Nat.le_of_ble_eq_true rfl) d_ST_addDeposit_4 (j_kV (σ1 := σ) ?_)
  refine j_astore C (by decide) (loc' := [(6, .ref s0), (0, .ref (ad 1)), (1, .int x1), (2, .int x2), (3, .int x3), (4, .int x4), (5, .int x5)]) rfl d_ST_addDeposit_7 ?_
  refine j_aload_n C 1 rfl rfl d_ST_addDeposit_9 ?_
  refine j_dup C rfl d_ST_addDeposit_10 ?_
  refine g_ST_lastDepositId C (List.mem_cons_of_mem _ wd_1_124) d_ST_addDeposit_11 ?_
  refine j_iconst C (v := 1) (by decide) d_ST_addDeposit_14 ?_
  refine j_iadd C d_ST_addDeposit_15 ?_
  obtain ⟨σ16, eσ16, hf⟩ := o_nmS hf
  refine p_ST_lastDepositId C eσ16 (List.mem_cons_of_mem _ wd_1_124) d_ST_addDeposit_16 ?_
  refine j_aload C 0 rfl d_ST_addDeposit_19 ?_
  refine j_aload_n C 1 rfl rfl d_ST_addDeposit_21 ?_
  refine g_ST_lastDepositId C (List.mem_cons_of_mem _ wd_1_124) d_ST_addDeposit_22 ?_
  obtain ⟨g25, hf⟩ := o_gn hf
  obtain ⟨σ25, eσ25, hf⟩ := o_nmS hf
  refine pp_Deposit_id C (Decidable.not_not.mp g25) eσ25 (List.mem_cons_of_mem _ wd_3_123) d_ST_addDeposit_25 ?_
  refine j_aload C 0 rfl d_ST_addDeposit_28 ?_
  refine j_iload_n C 2 rfl rfl d_ST_addDeposit_30 ?_
  obtain ⟨g31, hf⟩ := o_gn hf
  obtain ⟨σ31, eσ31, hf⟩ := o_nmS hf
  refine pp_Deposit_from C (Decidable.not_not.mp g31) eσ31 (List.mem_cons_of_mem _ wd_3_125) d_ST_addDeposit_31 ?_
  refine j_aload C 0 rfl d_ST_addDeposit_34 ?_
  refine j_iload_n C 3 rfl rfl d_ST_addDeposit_36 ?_
  obtain ⟨g37, hf⟩ := o_gn hf
  obtain ⟨σ37, eσ37, hf⟩ := o_nmS hf
  refine pp_Deposit_to C (Decidable.not_not.mp g37) eσ37 (List.mem_cons_of_mem _ wd_3_129) d_ST_addDeposit_37 ?_
  refine j_aload C 0 rfl d_ST_addDeposit_40 ?_
  refine j_iload_n C 4 rfl rfl d_ST_addDeposit_42 ?_
  obtain ⟨g43, hf⟩ := o_gn hf
  obtain ⟨σ43, eσ43, hf⟩ := o_nmS hf
  refine pp_Deposit_coins C (Decidable.not_not.mp g43) eσ43 (List.mem_cons_of_mem _ wd_3_132) d_ST_addDeposit_43 ?_
  refine j_aload C 0 rfl d_ST_addDeposit_46 ?_
  refine j_iload C 5 rfl d_ST_addDeposit_48 ?_
  obtain ⟨g50, hf⟩ := o_gn hf
  obtain ⟨σ50, eσ50, hf⟩ := o_nmS hf
  refine pp_Deposit_after C (Decidable.not_not.mp g50) eσ50 (List.mem_cons_of_mem _ wd_3_135) d_ST_addDeposit_50 ?_
  refine j_aload C 0 rfl d_ST_addDeposit_53 ?_
  refine j_iload C 6 rfl d_ST_addDeposit_55 ?_
  obtain ⟨g57, hf⟩ := o_gn hf
  obtain ⟨σ57, eσ57, hf⟩ := o_nmS hf
  refine pp_Deposit_until C (Decidable.not_not.mp g57) eσ57 (List.mem_cons_of_mem _ wd_3_138) d_ST_addDeposit_57 ?_
  refine j_aload_n C 1 rfl rfl d_ST_addDeposit_60 ?_
  refine g_ST_deposits C (List.mem_cons_of_mem _ wd_1_120) d_ST_addDeposit_61 ?_
  refine j_aload C 0 rfl d_ST_addDeposit_64 ?_
  refine j_sub [] rfl ?_
  exact hx s0 σ57 (Option.some.inj hf)
theorem d_TL_offer_0 : decode b_TL_offer 0 = .ok (.aload_n 0, 1) := by decide +kernel
theorem d_TL_offer_1 : decode b_TL_offer 1 = .ok (.iload_n 1, 1) := by decide +kernel
theorem d_TL_offer_2 : decode b_TL_offer 2 = .ok (.invokestatic 111, 3) := by decide +kernel
theorem d_TL_offer_5 : decode b_TL_offer 5 = .ok (.ifCond .eq 50, 3) := by decide +kernel
theorem d_TL_offer_8 : decode b_TL_offer 8 = .ok (.iload_n 3, 1) := by decide +kernel
theorem d_TL_offer_9 : decode b_TL_offer 9 = .ok (.invokestatic 111, 3) := by decide +kernel
theorem d_TL_offer_12 : decode b_TL_offer 12 = .ok (.ifCond .eq 43, 3) := by decide +kernel
theorem d_TL_offer_15 : decode b_TL_offer 15 = .ok (.iload_n 1, 1) := by decide +kernel
theorem d_TL_offer_16 : decode b_TL_offer 16 = .ok (.iload_n 3, 1) := by decide +kernel
theorem d_TL_offer_17 : decode b_TL_offer 17 = .ok (.if_icmp .eq 38, 3) := by decide +kernel
theorem d_TL_offer_20 : decode b_TL_offer 20 = .ok (.iload_n 2, 1) := by decide +kernel
theorem d_TL_offer_21 : decode b_TL_offer 21 = .ok (.iconst 1, 1) := by decide +kernel
theorem d_TL_offer_22 : decode b_TL_offer 22 = .ok (.ldc 82, 2) := by decide +kernel
theorem d_TL_offer_24 : decode b_TL_offer 24 = .ok (.invokestatic 47, 3) := by decide +kernel
theorem d_TL_offer_27 : decode b_TL_offer 27 = .ok (.ifCond .eq 28, 3) := by decide +kernel
theorem d_TL_offer_30 : decode b_TL_offer 30 = .ok (.iload 4, 2) := by decide +kernel
theorem d_TL_offer_32 : decode b_TL_offer 32 = .ok (.iconst 1, 1) := by decide +kernel
theorem d_TL_offer_33 : decode b_TL_offer 33 = .ok (.ldc 82, 2) := by decide +kernel
theorem d_TL_offer_35 : decode b_TL_offer 35 = .ok (.invokestatic 47, 3) := by decide +kernel
theorem d_TL_offer_38 : decode b_TL_offer 38 = .ok (.ifCond .eq 17, 3) := by decide +kernel
theorem d_TL_offer_41 : decode b_TL_offer 41 = .ok (.iload 5, 2) := by decide +kernel
theorem d_TL_offer_43 : decode b_TL_offer 43 = .ok (.iconst 0, 1) := by decide +kernel
theorem d_TL_offer_44 : decode b_TL_offer 44 = .ok (.iconst 2, 1) := by decide +kernel
theorem d_TL_offer_45 : decode b_TL_offer 45 = .ok (.invokestatic 47, 3) := by decide +kernel
theorem d_TL_offer_48 : decode b_TL_offer 48 = .ok (.ifCond .eq 7, 3) := by decide +kernel
theorem d_TL_offer_51 : decode b_TL_offer 51 = .ok (.iconst 1, 1) := by decide +kernel
theorem d_TL_offer_52 : decode b_TL_offer 52 = .ok (.goto 4, 3) := by decide +kernel
theorem d_TL_offer_55 : decode b_TL_offer 55 = .ok (.iconst 0, 1) := by decide +kernel
theorem d_TL_offer_56 : decode b_TL_offer 56 = .ok (.invokevirtual 57, 3) := by decide +kernel
theorem d_TL_offer_59 : decode b_TL_offer 59 = .ok (.istore 6, 2) := by decide +kernel
theorem d_TL_offer_61 : decode b_TL_offer 61 = .ok (.iload 6, 2) := by decide +kernel
theorem d_TL_offer_63 : decode b_TL_offer 63 = .ok (.ifCond .eq 6, 3) := by decide +kernel
theorem d_TL_offer_66 : decode b_TL_offer 66 = .ok (.iload 6, 2) := by decide +kernel
theorem d_TL_offer_68 : decode b_TL_offer 68 = .ok (.ireturn, 1) := by decide +kernel
theorem d_TL_offer_69 : decode b_TL_offer 69 = .ok (.aload_n 0, 1) := by decide +kernel
theorem d_TL_offer_70 : decode b_TL_offer 70 = .ok (.getfield 10, 3) := by decide +kernel
theorem d_TL_offer_73 : decode b_TL_offer 73 = .ok (.aload_n 0, 1) := by decide +kernel
theorem d_TL_offer_74 : decode b_TL_offer 74 = .ok (.getfield 32, 3) := by decide +kernel
theorem d_TL_offer_77 : decode b_TL_offer 77 = .ok (.iload_n 3, 1) := by decide +kernel
theorem d_TL_offer_78 : decode b_TL_offer 78 = .ok (.invokevirtual 71, 3) := by decide +kernel
theorem d_TL_offer_81 : decode b_TL_offer 81 = .ok (.istore 7, 2) := by decide +kernel
theorem d_TL_offer_83 : decode b_TL_offer 83 = .ok (.iload 7, 2) := by decide +kernel
theorem d_TL_offer_85 : decode b_TL_offer 85 = .ok (.ifCond .ne 6, 3) := by decide +kernel
theorem d_TL_offer_88 : decode b_TL_offer 88 = .ok (.bipush 22, 2) := by decide +kernel
theorem d_TL_offer_90 : decode b_TL_offer 90 = .ok (.ireturn, 1) := by decide +kernel
theorem d_TL_offer_91 : decode b_TL_offer 91 = .ok (.aload_n 0, 1) := by decide +kernel
theorem d_TL_offer_92 : decode b_TL_offer 92 = .ok (.getfield 21, 3) := by decide +kernel
theorem d_TL_offer_95 : decode b_TL_offer 95 = .ok (.aload_n 0, 1) := by decide +kernel
theorem d_TL_offer_96 : decode b_TL_offer 96 = .ok (.getfield 32, 3) := by decide +kernel
theorem d_TL_offer_99 : decode b_TL_offer 99 = .ok (.iload_n 3, 1) := by decide +kernel
theorem d_TL_offer_100 : decode b_TL_offer 100 = .ok (.iload_n 1, 1) := by decide +kernel
theorem d_TL_offer_101 : decode b_TL_offer 101 = .ok (.invokevirtual 117, 3) := by decide +kernel
theorem d_TL_offer_104 : decode b_TL_offer 104 = .ok (.aload_n 0, 1) := by decide +kernel
theorem d_TL_offer_105 : decode b_TL_offer 105 = .ok (.getfield 21, 3) := by decide +kernel
theorem d_TL_offer_108 : decode b_TL_offer 108 = .ok (.iload_n 2, 1) := by decide +kernel
theorem d_TL_offer_109 : decode b_TL_offer 109 = .ok (.iload 4, 2) := by decide +kernel
theorem d_TL_offer_111 : decode b_TL_offer 111 = .ok (.iload 7, 2) := by decide +kernel
theorem d_TL_offer_113 : decode b_TL_offer 113 = .ok (.invokevirtual 135, 3) := by decide +kernel
theorem d_TL_offer_116 : decode b_TL_offer 116 = .ok (.iload 5, 2) := by decide +kernel
theorem d_TL_offer_118 : decode b_TL_offer 118 = .ok (.iconst 2, 1) := by decide +kernel
theorem d_TL_offer_119 : decode b_TL_offer 119 = .ok (.if_icmp .ne 14, 3) := by decide +kernel
theorem d_TL_offer_122 : decode b_TL_offer 122 = .ok (.aload_n 0, 1) := by decide +kernel
theorem d_TL_offer_123 : decode b_TL_offer 123 = .ok (.getfield 21, 3) := by decide +kernel
theorem d_TL_offer_126 : decode b_TL_offer 126 = .ok (.getfield 138, 3) := by decide +kernel
theorem d_TL_offer_129 : decode b_TL_offer 129 = .ok (.iload_n 2, 1) := by decide +kernel
theorem d_TL_offer_130 : decode b_TL_offer 130 = .ok (.if_icmp .lt 19, 3) := by decide +kernel
theorem d_TL_offer_133 : decode b_TL_offer 133 = .ok (.iload 5, 2) := by decide +kernel
theorem d_TL_offer_135 : decode b_TL_offer 135 = .ok (.iconst 1, 1) := by decide +kernel
theorem d_TL_offer_136 : decode b_TL_offer 136 = .ok (.if_icmp .ne 16, 3) := by decide +kernel
theorem d_TL_offer_139 : decode b_TL_offer 139 = .ok (.aload_n 0, 1) := by decide +kernel
theorem d_TL_offer_140 : decode b_TL_offer 140 = .ok (.getfield 21, 3) := by decide +kernel
theorem d_TL_offer_143 : decode b_TL_offer 143 = .ok (.getfield 138, 3) := by decide +kernel
theorem d_TL_offer_146 : decode b_TL_offer 146 = .ok (.ifCond .ne 6, 3) := by decide +kernel
theorem d_TL_offer_149 : decode b_TL_offer 149 = .ok (.bipush 25, 2) := by decide +kernel
theorem d_TL_offer_151 : decode b_TL_offer 151 = .ok (.ireturn, 1) := by decide +kernel
theorem d_TL_offer_152 : decode b_TL_offer 152 = .ok (.aload_n 0, 1) := by decide +kernel
theorem d_TL_offer_153 : decode b_TL_offer 153 = .ok (.getfield 21, 3) := by decide +kernel
theorem d_TL_offer_156 : decode b_TL_offer 156 = .ok (.getfield 138, 3) := by decide +kernel
theorem d_TL_offer_159 : decode b_TL_offer 159 = .ok (.ifCond .ne 20, 3) := by decide +kernel
theorem d_TL_offer_162 : decode b_TL_offer 162 = .ok (.aload_n 0, 1) := by decide +kernel
theorem d_TL_offer_163 : decode b_TL_offer 163 = .ok (.aload_n 0, 1) := by decide +kernel
theorem d_TL_offer_164 : decode b_TL_offer 164 = .ok (.getfield 21, 3) := by decide +kernel
theorem d_TL_offer_167 : decode b_TL_offer 167 = .ok (.invokevirtual 141, 3) := by decide +kernel
theorem d_TL_offer_170 : decode b_TL_offer 170 = .ok (.invokevirtual 145, 3) := by decide +kernel
theorem d_TL_offer_173 : decode b_TL_offer 173 = .ok (.ifCond .ne 6, 3) := by decide +kernel
theorem d_TL_offer_176 : decode b_TL_offer 176 = .ok (.bipush 23, 2) := by decide +kernel
theorem d_TL_offer_178 : decode b_TL_offer 178 = .ok (.ireturn, 1) := by decide +kernel
theorem d_TL_offer_179 : decode b_TL_offer 179 = .ok (.aload_n 0, 1) := by decide +kernel
theorem d_TL_offer_180 : decode b_TL_offer 180 = .ok (.getfield 21, 3) := by decide +kernel
theorem d_TL_offer_183 : decode b_TL_offer 183 = .ok (.invokevirtual 132, 3) := by decide +kernel
theorem d_TL_offer_186 : decode b_TL_offer 186 = .ok (.aload_n 0, 1) := by decide +kernel
theorem d_TL_offer_187 : decode b_TL_offer 187 = .ok (.getfield 10, 3) := by decide +kernel
theorem d_TL_offer_190 : decode b_TL_offer 190 = .ok (.aload_n 0, 1) := by decide +kernel
theorem d_TL_offer_191 : decode b_TL_offer 191 = .ok (.getfield 32, 3) := by decide +kernel
theorem d_TL_offer_194 : decode b_TL_offer 194 = .ok (.iload_n 3, 1) := by decide +kernel
theorem d_TL_offer_195 : decode b_TL_offer 195 = .ok (.aload_n 0, 1) := by decide +kernel
theorem d_TL_offer_196 : decode b_TL_offer 196 = .ok (.getfield 21, 3) := by decide +kernel
theorem d_TL_offer_199 : decode b_TL_offer 199 = .ok (.getfield 148, 3) := by decide +kernel
theorem d_TL_offer_202 : decode b_TL_offer 202 = .ok (.ineg, 1) := by decide +kernel
theorem d_TL_offer_203 : decode b_TL_offer 203 = .ok (.invokevirtual 75, 3) := by decide +kernel
theorem d_TL_offer_206 : decode b_TL_offer 206 = .ok (.aload_n 0, 1) := by decide +kernel
theorem d_TL_offer_207 : decode b_TL_offer 207 = .ok (.getfield 10, 3) := by decide +kernel
theorem d_TL_offer_210 : decode b_TL_offer 210 = .ok (.aload_n 0, 1) := by decide +kernel
theorem d_TL_offer_211 : decode b_TL_offer 211 = .ok (.getfield 32, 3) := by decide +kernel
theorem d_TL_offer_214 : decode b_TL_offer 214 = .ok (.iload_n 1, 1) := by decide +kernel
theorem d_TL_offer_215 : decode b_TL_offer 215 = .ok (.aload_n 0, 1) := by decide +kernel
theorem d_TL_offer_216 : decode b_TL_offer 216 = .ok (.getfield 21, 3) := by decide +kernel
theorem d_TL_offer_219 : decode b_TL_offer 219 = .ok (.getfield 138, 3) := by decide +kernel
theorem d_TL_offer_222 : decode b_TL_offer 222 = .ok (.invokevirtual 75, 3) := by decide +kernel
theorem d_TL_offer_225 : decode b_TL_offer 225 = .ok (.iload_n 2, 1) := by decide +kernel
theorem d_TL_offer_226 : decode b_TL_offer 226 = .ok (.aload_n 0, 1) := by decide +kernel
theorem d_TL_offer_227 : decode b_TL_offer 227 = .ok (.getfield 21, 3) := by decide +kernel
theorem d_TL_offer_230 : decode b_TL_offer 230 = .ok (.getfield 138, 3) := by decide +kernel
theorem d_TL_offer_233 : decode b_TL_offer 233 = .ok (.isub, 1) := by decide +kernel
theorem d_TL_offer_234 : decode b_TL_offer 234 = .ok (.istore 8, 2) := by decide +kernel
theorem d_TL_offer_236 : decode b_TL_offer 236 = .ok (.iload 4, 2) := by decide +kernel
theorem d_TL_offer_238 : decode b_TL_offer 238 = .ok (.aload_n 0, 1) := by decide +kernel
theorem d_TL_offer_239 : decode b_TL_offer 239 = .ok (.getfield 21, 3) := by decide +kernel
theorem d_TL_offer_242 : decode b_TL_offer 242 = .ok (.getfield 151, 3) := by decide +kernel
theorem d_TL_offer_245 : decode b_TL_offer 245 = .ok (.isub, 1) := by decide +kernel
theorem d_TL_offer_246 : decode b_TL_offer 246 = .ok (.istore 9, 2) := by decide +kernel
theorem d_TL_offer_248 : decode b_TL_offer 248 = .ok (.iload 5, 2) := by decide +kernel
theorem d_TL_offer_250 : decode b_TL_offer 250 = .ok (.ifCond .ne 38, 3) := by decide +kernel
theorem d_TL_offer_253 : decode b_TL_offer 253 = .ok (.iload 8, 2) := by decide +kernel
theorem d_TL_offer_255 : decode b_TL_offer 255 = .ok (.ifCond .le 33, 3) := by decide +kernel
theorem d_TL_offer_258 : decode b_TL_offer 258 = .ok (.iload 9, 2) := by decide +kernel
theorem d_TL_offer_260 : decode b_TL_offer 260 = .ok (.ifCond .le 28, 3) := by decide +kernel
theorem d_TL_offer_263 : decode b_TL_offer 263 = .ok (.aload_n 0, 1) := by decide +kernel
theorem d_TL_offer_264 : decode b_TL_offer 264 = .ok (.iconst 0, 1) := by decide +kernel
theorem d_TL_offer_265 : decode b_TL_offer 265 = .ok (.invokevirtual 145, 3) := by decide +kernel
theorem d_TL_offer_268 : decode b_TL_offer 268 = .ok (.ifCond .eq 20, 3) := by decide +kernel
theorem d_TL_offer_271 : decode b_TL_offer 271 = .ok (.aload_n 0, 1) := by decide +kernel
theorem d_TL_offer_272 : decode b_TL_offer 272 = .ok (.getfield 10, 3) := by decide +kernel
theorem d_TL_offer_275 : decode b_TL_offer 275 = .ok (.aload_n 0, 1) := by decide +kernel
theorem d_TL_offer_276 : decode b_TL_offer 276 = .ok (.getfield 32, 3) := by decide +kernel
theorem d_TL_offer_279 : decode b_TL_offer 279 = .ok (.iload_n 1, 1) := by decide +kernel
theorem d_TL_offer_280 : decode b_TL_offer 280 = .ok (.iload 8, 2) := by decide +kernel
theorem d_TL_offer_282 : decode b_TL_offer 282 = .ok (.iload_n 3, 1) := by decide +kernel
theorem d_TL_offer_283 : decode b_TL_offer 283 = .ok (.iload 9, 2) := by decide +kernel
theorem d_TL_offer_285 : decode b_TL_offer 285 = .ok (.invokevirtual 154, 3) := by decide +kernel
theorem d_TL_offer_288 : decode b_TL_offer 288 = .ok (.iconst 0, 1) := by decide +kernel
theorem d_TL_offer_289 : decode b_TL_offer 289 = .ok (.ireturn, 1) := by decide +kernel
def TL_offer_c179 (x1 : Int32) (x2 : Int32) (x3 : Int32) (x4 : Int32) (x5 : Int32) (σ : ST) : Option (Int32 × ST × Option (Int32 × Int32 × Int32 × Int32 × Int32)) :=
  bd1 (TK_carryOut σ) fun σ183 =>
  bd1 (ST_change (gI σ183 0) x3 (-(gI σ183 16)) σ183) fun σ203 =>
  bd1 (ST_change (gI σ203 0) x1 (gI σ203 14) σ203) fun σ222 =>
  nmI (x2 - (gI σ222 14)) fun x8_234 =>
  nmI (x4 - (gI σ222 15)) fun x9_246 =>
  if x5 = 0 then (if x8_234 ≤ 0 then (some ((0 : Int32), σ222, none))
  else (if x9_246 ≤ 0 then (some ((0 : Int32), σ222, none))
  else (bd1 (TL_canPlace (0 : Int32) σ222) fun r265 =>
  if r265 = 0 then (some ((0 : Int32), σ222, none))
  else (some (0, σ222, some ((gI σ222 0), x1, x8_234, x3, x9_246))))))
  else (some ((0 : Int32), σ222, none))
set_option maxRecDepth 100000 in
set_option maxHeartbeats 4000000 in
theorem w_TL_offer_c179 {X : JX} (C : JC X l D (ttf cs) eE b_TL_offer "TollLedger" 10 (Cond.code y_TL_offer b_TL_offer 10 r_TL_offer :: BIG) 8 183 2 21) {res : Int32 × ST × Option (Int32 × Int32 × Int32 × Int32 × Int32)} {P : Option Value → ST → Prop} (Rt : JR X (wfm ad cs) 2 21 P r_TL_offer "offer") (hP : ∀ (v : Int32) (σ : ST), (v, σ, none) = res → P (some (.int v)) σ) (hx : ∀ (y1 : Int32) (y2 : Int32) (y3 : Int32) (y4 : Int32) (y5 : Int32) (σ : ST), (0, σ, some (y1, y2, y3, y4, y5)) = res → J (wfm ad cs) X 10 0 0 σ 285 [] [.int y5, .int y4, .int y3, .int y2, .int y1, .ref (ad 1)])  (x1 : Int32) (x2 : Int32) (x3 : Int32) (x4 : Int32) (x5 : Int32) (σ : ST) (hf : TL_offer_c179 x1 x2 x3 x4 x5 σ = some res) : J (wfm ad cs) X 10 0 0 σ 179 [(0, .ref (ad 0)), (1, .int x1), (2, .int x2), (3, .int x3), (4, .int x4), (5, .int x5)] [] := by
  unfold TL_offer_c179 at hf
  refine j_aload_n C 0 rfl rfl d_TL_offer_179 ?_
  refine g_TL_taking C (List.mem_cons_of_mem _ wd_1_219) d_TL_offer_180 ?_
  obtain ⟨σ183, h183, hf⟩ := o_b1 hf
  refine j_callV (ci := 4) (Cn := "TollLedger$Taking") (T := T_TK) (N := 13) C [] [] (m_TK_carryOut _ _ _ _ _ σ h183) (gdV wd_2_197 wd_2_198 wd_2_199 wd_1_8 wc_TK_carryOut) hy_TK_carryOut rfl ⟨4, rfl⟩ rfl rfl (by decide) (by decide) (by decide) (by decide) (Nat.le_of_ble_eq_true rfl) d_TL_offer_183 (j_kV (σ1 := σ183) ?_)
  refine j_aload_n C 0 rfl rfl d_TL_offer_186 ?_
  refine g_TL_state C (List.mem_cons_of_mem _ wd_1_218) d_TL_offer_187 ?_
  refine j_aload_n C 0 rfl rfl d_TL_offer_190 ?_
  refine g_TL_signer C (List.mem_cons_of_mem _ wd_1_221) d_TL_offer_191 ?_
  refine j_iload_n C 3 rfl rfl d_TL_offer_194 ?_
  refine j_aload_n C 0 rfl rfl d_TL_offer_195 ?_
  refine g_TL_taking C (List.mem_cons_of_mem _ wd_1_219) d_TL_offer_196 ?_
  refine g_TK_cost C (List.mem_cons_of_mem _ wd_1_179) d_TL_offer_199 ?_
  refine j_ineg C d_TL_offer_202 ?_
  obtain ⟨σ203, h203, hf⟩ := o_b1 hf
  refine j_callV (ci := 1) (Cn := "TollLedger$State") (T := T_ST) (N := 6) C [.int (gI σ183 0), .int x3, .int (-(gI σ183 16))] [] (m_ST_change _ _ _ _ _ (gI σ183 0) x3 (-(gI σ183 16)) σ183 h203) (gdV wd_2_85 wd_2_86 wd_2_87 wd_1_2 wc_ST_change) hy_ST_change rfl ⟨1, rfl⟩ rfl rfl (by decide) (by decide) (by decide) (by decide) (Nat.le_of_ble_eq_true rfl) d_TL_offer_203 (j_kV (σ1 := σ203) ?_)
  refine j_aload_n C 0 rfl rfl d_TL_offer_206 ?_
  refine g_TL_state C (List.mem_cons_of_mem _ wd_1_218) d_TL_offer_207 ?_
  refine j_aload_n C 0 rfl rfl d_TL_offer_210 ?_
  refine g_TL_signer C (List.mem_cons_of_mem _ wd_1_221) d_TL_offer_211 ?_
  refine j_iload_n C 1 rfl rfl d_TL_offer_214 ?_
  refine j_aload_n C 0 rfl rfl d_TL_offer_215 ?_
  refine g_TL_taking C (List.mem_cons_of_mem _ wd_1_219) d_TL_offer_216 ?_
  refine g_TK_taken C (List.mem_cons_of_mem _ wd_1_175) d_TL_offer_219 ?_
  obtain ⟨σ222, h222, hf⟩ := o_b1 hf
  refine j_callV (ci := 1) (Cn := "TollLedger$State") (T := T_ST) (N := 6) C [.int (gI σ203 0), .int x1, .int (gI σ203 14)] [] (m_ST_change _ _ _ _ _ (gI σ203 0) x1 (gI σ203 14) σ203 h222) (gdV wd_2_85 wd_2_86 wd_2_87 wd_1_2 wc_ST_change) hy_ST_change rfl ⟨1, rfl⟩ rfl rfl (by decide) (by decide) (by decide) (by decide) (Nat.le_of_ble_eq_true rfl) d_TL_offer_222 (j_kV (σ1 := σ222) ?_)
  refine j_iload_n C 2 rfl rfl d_TL_offer_225 ?_
  refine j_aload_n C 0 rfl rfl d_TL_offer_226 ?_
  refine g_TL_taking C (List.mem_cons_of_mem _ wd_1_219) d_TL_offer_227 ?_
  refine g_TK_taken C (List.mem_cons_of_mem _ wd_1_175) d_TL_offer_230 ?_
  refine j_isub C d_TL_offer_233 ?_
  obtain ⟨x8_234, ex8_234, hf⟩ := o_nmI hf
  refine j_topI ex8_234 ?_
  refine j_istore C (by decide) (loc' := [(8, .int x8_234), (0, .ref (ad 0)), (1, .int x1), (2, .int x2), (3, .int x3), (4, .int x4), (5, .int x5)]) rfl d_TL_offer_234 ?_
  refine j_iload C 5 rfl d_TL_offer_236 ?_
  refine j_aload_n C 1 rfl rfl d_TL_offer_238 ?_
  refine g_TL_taking C (List.mem_cons_of_mem _ wd_1_219) d_TL_offer_239 ?_
  refine g_TK_price C (List.mem_cons_of_mem _ wd_1_177) d_TL_offer_242 ?_
  refine j_isub C d_TL_offer_245 ?_
  obtain ⟨x9_246, ex9_246, hf⟩ := o_nmI hf
  refine j_topI ex9_246 ?_
  refine j_istore C (by decide) (loc' := [(9, .int x9_246), (8, .int x8_234), (0, .ref (ad 0)), (1, .int x1), (2, .int x2), (3, .int x3), (4, .int x4), (5, .int x5)]) rfl d_TL_offer_246 ?_
  refine j_iload C 7 rfl d_TL_offer_248 ?_
  refine j_if_ne C d_TL_offer_250 rfl (fun c250 => ?_) (fun c250 => ?_)
  · have hf := o_if c250 hf
    refine j_iconst C (v := 0) (by decide) d_TL_offer_288 ?_
    exact j_iret C Rt (Nat.zero_le _) (Nat.zero_le _) d_TL_offer_289 (hP _ _ (Option.some.inj hf))
  · have hf := o_it c250 hf
    refine j_iload C 1 rfl d_TL_offer_253 ?_
    refine j_if_le C d_TL_offer_255 rfl (fun c255 => ?_) (fun c255 => ?_)
    · have hf := o_it c255 hf
      refine j_iconst C (v := 0) (by decide) d_TL_offer_288 ?_
      exact j_iret C Rt (Nat.zero_le _) (Nat.zero_le _) d_TL_offer_289 (hP _ _ (Option.some.inj hf))
    · have hf := o_if c255 hf
      refine j_iload C 0 rfl d_TL_offer_258 ?_
      refine j_if_le C d_TL_offer_260 rfl (fun c260 => ?_) (fun c260 => ?_)
      · have hf := o_it c260 hf
        refine j_iconst C (v := 0) (by decide) d_TL_offer_288 ?_
        exact j_iret C Rt (Nat.zero_le _) (Nat.zero_le _) d_TL_offer_289 (hP _ _ (Option.some.inj hf))
      · have hf := o_if c260 hf
        refine j_aload_n C 2 rfl rfl d_TL_offer_263 ?_
        refine j_iconst C (v := 0) (by decide) d_TL_offer_264 ?_
        obtain ⟨r265, h265, hf⟩ := o_b1 hf
        refine j_callV (ci := 0) (Cn := "TollLedger") (T := T_TL) (N := 10) C [.int (0 : Int32)] [] (m_TL_canPlace _ _ _ _ _ (0 : Int32) σ222 h265) (gdV wd_2_237 wd_2_239 wp_11 wd_1_1 wc_TL_canPlace) hy_TL_canPlace rfl ⟨0, rfl⟩ rfl rfl (by decide) (by decide) (by decide) (by decide) (Nat.le_of_ble_eq_true rfl) d_TL_offer_265 (j_kI (r := r265) (σ1 := σ222) ?_)
        refine j_if_eq C d_TL_offer_268 rfl (fun c268 => ?_) (fun c268 => ?_)
        · have hf := o_it c268 hf
          refine j_iconst C (v := 0) (by decide) d_TL_offer_288 ?_
          exact j_iret C Rt (Nat.zero_le _) (Nat.zero_le _) d_TL_offer_289 (hP _ _ (Option.some.inj hf))
        · have hf := o_if c268 hf
          refine j_aload_n C 2 rfl rfl d_TL_offer_271 ?_
          refine g_TL_state C (List.mem_cons_of_mem _ wd_1_218) d_TL_offer_272 ?_
          refine j_aload_n C 2 rfl rfl d_TL_offer_275 ?_
          refine g_TL_signer C (List.mem_cons_of_mem _ wd_1_221) d_TL_offer_276 ?_
          refine j_iload_n C 3 rfl rfl d_TL_offer_279 ?_
          refine j_iload C 1 rfl d_TL_offer_280 ?_
          refine j_iload_n C 5 rfl rfl d_TL_offer_282 ?_
          refine j_iload C 0 rfl d_TL_offer_283 ?_
          refine j_sub [] rfl ?_
          exact hx (gI σ222 0) x1 x8_234 x3 x9_246 σ222 (Option.some.inj hf)
def TL_offer_c152 (x1 : Int32) (x2 : Int32) (x3 : Int32) (x4 : Int32) (x5 : Int32) (σ : ST) : Option (Int32 × ST × Option (Int32 × Int32 × Int32 × Int32 × Int32)) :=
  if (gI σ 14) = 0 then (bd1 (TK_countUnfunded σ) fun r167 =>
  bd1 (TL_canPlace r167 σ) fun r170 =>
  if r170 = 0 then (some ((23 : Int32), σ, none))
  else (TL_offer_c179 x1 x2 x3 x4 x5 σ))
  else (TL_offer_c179 x1 x2 x3 x4 x5 σ)
set_option maxRecDepth 100000 in
set_option maxHeartbeats 4000000 in
theorem w_TL_offer_c152 {X : JX} (C : JC X l D (ttf cs) eE b_TL_offer "TollLedger" 10 (Cond.code y_TL_offer b_TL_offer 10 r_TL_offer :: BIG) 8 183 2 21) {res : Int32 × ST × Option (Int32 × Int32 × Int32 × Int32 × Int32)} {P : Option Value → ST → Prop} (Rt : JR X (wfm ad cs) 2 21 P r_TL_offer "offer") (hP : ∀ (v : Int32) (σ : ST), (v, σ, none) = res → P (some (.int v)) σ) (hx : ∀ (y1 : Int32) (y2 : Int32) (y3 : Int32) (y4 : Int32) (y5 : Int32) (σ : ST), (0, σ, some (y1, y2, y3, y4, y5)) = res → J (wfm ad cs) X 10 0 0 σ 285 [] [.int y5, .int y4, .int y3, .int y2, .int y1, .ref (ad 1)])  (x1 : Int32) (x2 : Int32) (x3 : Int32) (x4 : Int32) (x5 : Int32) (σ : ST) (hf : TL_offer_c152 x1 x2 x3 x4 x5 σ = some res) : J (wfm ad cs) X 10 0 0 σ 152 [(0, .ref (ad 0)), (1, .int x1), (2, .int x2), (3, .int x3), (4, .int x4), (5, .int x5)] [] := by
  unfold TL_offer_c152 at hf
  refine j_aload_n C 0 rfl rfl d_TL_offer_152 ?_
  refine g_TL_taking C (List.mem_cons_of_mem _ wd_1_219) d_TL_offer_153 ?_
  refine g_TK_taken C (List.mem_cons_of_mem _ wd_1_175) d_TL_offer_156 ?_
  refine j_if_ne C d_TL_offer_159 rfl (fun c159 => ?_) (fun c159 => ?_)
  · have hf := o_if c159 hf
    exact w_TL_offer_c179 C Rt hP hx  x1 x2 x3 x4 x5 σ hf
  · have hf := o_it c159 hf
    refine j_aload_n C 0 rfl rfl d_TL_offer_162 ?_
    refine j_aload_n C 0 rfl rfl d_TL_offer_163 ?_
    refine g_TL_taking C (List.mem_cons_of_mem _ wd_1_219) d_TL_offer_164 ?_
    obtain ⟨r167, h167, hf⟩ := o_b1 hf
    refine j_callV (ci := 4) (Cn := "TollLedger$Taking") (T := T_TK) (N := 13) C [] [.ref (ad 0)] (m_TK_countUnfunded _ _ _ _ _ σ h167) (gdV wd_2_233 wd_2_234 wd_2_235 wd_1_8 wc_TK_countUnfunded) hy_TK_countUnfunded rfl ⟨4, rfl⟩ rfl rfl (by decide) (by decide) (by decide) (by decide) (Nat.le_of_ble_eq_true rfl) d_TL_offer_167 (j_kI (r := r167) (σ1 := σ) ?_)
    obtain ⟨r170, h170, hf⟩ := o_b1 hf
    refine j_callV (ci := 0) (Cn := "TollLedger") (T := T_TL) (N := 10) C [.int r167] [] (m_TL_canPlace _ _ _ _ _ r167 σ h170) (gdV wd_2_237 wd_2_239 wp_11 wd_1_1 wc_TL_canPlace) hy_TL_canPlace rfl ⟨0, rfl⟩ rfl rfl (by decide) (by decide) (by decide) (by decide) (Nat.le_of_ble_eq_true rfl) d_TL_offer_170 (j_kI (r := r170) (σ1 := σ) ?_)
    refine j_if_ne C d_TL_offer_173 rfl (fun c173 => ?_) (fun c173 => ?_)
    · have hf := o_if c173 hf
      exact w_TL_offer_c179 C Rt hP hx  x1 x2 x3 x4 x5 σ hf
    · have hf := o_it c173 hf
      refine j_bipush C (v := 23) (by decide) d_TL_offer_176 ?_
      exact j_iret C Rt (Nat.zero_le _) (Nat.zero_le _) d_TL_offer_178 (hP _ _ (Option.some.inj hf))
def TL_offer_c133 (x1 : Int32) (x2 : Int32) (x3 : Int32) (x4 : Int32) (x5 : Int32) (σ : ST) : Option (Int32 × ST × Option (Int32 × Int32 × Int32 × Int32 × Int32)) :=
  if x5 = (1 : Int32) then (if (gI σ 14) = 0 then (some ((25 : Int32), σ, none))
  else (TL_offer_c152 x1 x2 x3 x4 x5 σ))
  else (TL_offer_c152 x1 x2 x3 x4 x5 σ)
set_option maxRecDepth 100000 in
set_option maxHeartbeats 4000000 in
theorem w_TL_offer_c133 {X : JX} (C : JC X l D (ttf cs) eE b_TL_offer "TollLedger" 10 (Cond.code y_TL_offer b_TL_offer 10 r_TL_offer :: BIG) 8 183 2 21) {res : Int32 × ST × Option (Int32 × Int32 × Int32 × Int32 × Int32)} {P : Option Value → ST → Prop} (Rt : JR X (wfm ad cs) 2 21 P r_TL_offer "offer") (hP : ∀ (v : Int32) (σ : ST), (v, σ, none) = res → P (some (.int v)) σ) (hx : ∀ (y1 : Int32) (y2 : Int32) (y3 : Int32) (y4 : Int32) (y5 : Int32) (σ : ST), (0, σ, some (y1, y2, y3, y4, y5)) = res → J (wfm ad cs) X 10 0 0 σ 285 [] [.int y5, .int y4, .int y3, .int y2, .int y1, .ref (ad 1)])  (x1 : Int32) (x2 : Int32) (x3 : Int32) (x4 : Int32) (x5 : Int32) (σ : ST) (hf : TL_offer_c133 x1 x2 x3 x4 x5 σ = some res) : J (wfm ad cs) X 10 0 0 σ 133 [(0, .ref (ad 0)), (1, .int x1), (2, .int x2), (3, .int x3), (4, .int x4), (5, .int x5)] [] := by
  unfold TL_offer_c133 at hf
  refine j_iload C 5 rfl d_TL_offer_133 ?_
  refine j_iconst C (v := 1) (by decide) d_TL_offer_135 ?_
  refine j_icmp_ne C d_TL_offer_136 rfl (fun c136 => ?_) (fun c136 => ?_)
  · have hf := o_if c136 hf
    exact w_TL_offer_c152 C Rt hP hx  x1 x2 x3 x4 x5 σ hf
  · have hf := o_it c136 hf
    refine j_aload_n C 0 rfl rfl d_TL_offer_139 ?_
    refine g_TL_taking C (List.mem_cons_of_mem _ wd_1_219) d_TL_offer_140 ?_
    refine g_TK_taken C (List.mem_cons_of_mem _ wd_1_175) d_TL_offer_143 ?_
    refine j_if_ne C d_TL_offer_146 rfl (fun c146 => ?_) (fun c146 => ?_)
    · have hf := o_if c146 hf
      exact w_TL_offer_c152 C Rt hP hx  x1 x2 x3 x4 x5 σ hf
    · have hf := o_it c146 hf
      refine j_bipush C (v := 25) (by decide) d_TL_offer_149 ?_
      exact j_iret C Rt (Nat.zero_le _) (Nat.zero_le _) d_TL_offer_151 (hP _ _ (Option.some.inj hf))
def TL_offer_c56 (x1 : Int32) (x2 : Int32) (x3 : Int32) (x4 : Int32) (x5 : Int32) (s1 : Int32) (σ : ST) : Option (Int32 × ST × Option (Int32 × Int32 × Int32 × Int32 × Int32)) :=
  bd2 (TL_charge s1 σ) fun r56 σ56 =>
  if r56 = 0 then (bd1 (ST_fundsOf (gI σ56 0) x3 σ56) fun r78 =>
  if r78 = 0 then (some ((22 : Int32), σ56, none))
  else (bd1 (TK_open (gI σ56 0) x3 x1 σ56) fun σ101 =>
  bd1 (TK_planCrossing x2 x4 r78 σ101) fun σ113 =>
  if x5 = (2 : Int32) then (if (gI σ113 14) < x2 then (some ((25 : Int32), σ113, none))
  else (TL_offer_c133 x1 x2 x3 x4 x5 σ113))
  else (TL_offer_c133 x1 x2 x3 x4 x5 σ113)))
  else (some (r56, σ56, none))
set_option maxRecDepth 100000 in
set_option maxHeartbeats 4000000 in
theorem w_TL_offer_c56 {X : JX} (C : JC X l D (ttf cs) eE b_TL_offer "TollLedger" 10 (Cond.code y_TL_offer b_TL_offer 10 r_TL_offer :: BIG) 8 183 2 21) {res : Int32 × ST × Option (Int32 × Int32 × Int32 × Int32 × Int32)} {P : Option Value → ST → Prop} (Rt : JR X (wfm ad cs) 2 21 P r_TL_offer "offer") (hP : ∀ (v : Int32) (σ : ST), (v, σ, none) = res → P (some (.int v)) σ) (hx : ∀ (y1 : Int32) (y2 : Int32) (y3 : Int32) (y4 : Int32) (y5 : Int32) (σ : ST), (0, σ, some (y1, y2, y3, y4, y5)) = res → J (wfm ad cs) X 10 0 0 σ 285 [] [.int y5, .int y4, .int y3, .int y2, .int y1, .ref (ad 1)])  (x1 : Int32) (x2 : Int32) (x3 : Int32) (x4 : Int32) (x5 : Int32) (s1 : Int32) (σ : ST) (hf : TL_offer_c56 x1 x2 x3 x4 x5 s1 σ = some res) : J (wfm ad cs) X 10 0 0 σ 56 [(0, .ref (ad 0)), (1, .int x1), (2, .int x2), (3, .int x3), (4, .int x4), (5, .int x5)] [.int s1, .ref (ad 0)] := by
  unfold TL_offer_c56 at hf
  obtain ⟨r56, σ56, h56, hf⟩ := o_b2 hf
  refine j_callV (ci := 0) (Cn := "TollLedger") (T := T_TL) (N := 10) C [.int s1] [] (m_TL_charge _ _ _ _ _ s1 σ h56) (gdV wd_2_27 wd_2_29 wp_1 wd_1_1 wc_TL_charge) hy_TL_charge rfl ⟨0, rfl⟩ rfl rfl (by decide) (by decide) (by decide) (by decide) (Nat.le_of_ble_eq_true rfl) d_TL_offer_56 (j_kI (r := r56) (σ1 := σ56) ?_)
  refine j_istore C (by decide) (loc' := [(6, .int r56), (0, .ref (ad 0)), (1, .int x1), (2, .int x2), (3, .int x3), (4, .int x4), (5, .int x5)]) rfl d_TL_offer_59 ?_
  refine j_iload C 0 rfl d_TL_offer_61 ?_
  refine j_if_eq C d_TL_offer_63 rfl (fun c63 => ?_) (fun c63 => ?_)
  · have hf := o_it c63 hf
    refine j_aload_n C 1 rfl rfl d_TL_offer_69 ?_
    refine g_TL_state C (List.mem_cons_of_mem _ wd_1_218) d_TL_offer_70 ?_
    refine j_aload_n C 1 rfl rfl d_TL_offer_73 ?_
    refine g_TL_signer C (List.mem_cons_of_mem _ wd_1_221) d_TL_offer_74 ?_
    refine j_iload_n C 4 rfl rfl d_TL_offer_77 ?_
    obtain ⟨r78, h78, hf⟩ := o_b1 hf
    refine j_callV (ci := 1) (Cn := "TollLedger$State") (T := T_ST) (N := 6) C [.int (gI σ56 0), .int x3] [] (m_ST_fundsOf _ _ _ _ _ (gI σ56 0) x3 σ56 h78) (gdV wd_2_31 wd_2_32 wd_2_33 wd_1_2 wc_ST_fundsOf) hy_ST_fundsOf rfl ⟨1, rfl⟩ rfl rfl (by decide) (by decide) (by decide) (by decide) (Nat.le_of_ble_eq_true rfl) d_TL_offer_78 (j_kI (r := r78) (σ1 := σ56) ?_)
    refine j_istore C (by decide) (loc' := [(7, .int r78), (6, .int r56), (0, .ref (ad 0)), (1, .int x1), (2, .int x2), (3, .int x3), (4, .int x4), (5, .int x5)]) rfl d_TL_offer_81 ?_
    refine j_iload C 0 rfl d_TL_offer_83 ?_
    refine j_if_ne C d_TL_offer_85 rfl (fun c85 => ?_) (fun c85 => ?_)
    · have hf := o_if c85 hf
      refine j_aload_n C 2 rfl rfl d_TL_offer_91 ?_
      refine g_TL_taking C (List.mem_cons_of_mem _ wd_1_219) d_TL_offer_92 ?_
      refine j_aload_n C 2 rfl rfl d_TL_offer_95 ?_
      refine g_TL_signer C (List.mem_cons_of_mem _ wd_1_221) d_TL_offer_96 ?_
      refine j_iload_n C 5 rfl rfl d_TL_offer_99 ?_
      refine j_iload_n C 3 rfl rfl d_TL_offer_100 ?_
      obtain ⟨σ101, h101, hf⟩ := o_b1 hf
      refine j_callV (ci := 4) (Cn := "TollLedger$Taking") (T := T_TK) (N := 13) C [.int (gI σ56 0), .int x3, .int x1] [] (m_TK_open _ _ _ _ _ (gI σ56 0) x3 x1 σ56 h101) (gdV wd_2_122 wd_2_123 wd_2_124 wd_1_8 wc_TK_open) hy_TK_open rfl ⟨4, rfl⟩ rfl rfl (by decide) (by decide) (by decide) (by decide) (Nat.le_of_ble_eq_true rfl) d_TL_offer_101 (j_kV (σ1 := σ101) ?_)
      refine j_aload_n C 2 rfl rfl d_TL_offer_104 ?_
      refine g_TL_taking C (List.mem_cons_of_mem _ wd_1_219) d_TL_offer_105 ?_
      refine j_iload_n C 4 rfl rfl d_TL_offer_108 ?_
      refine j_iload C 6 rfl d_TL_offer_109 ?_
      refine j_iload C 0 rfl d_TL_offer_111 ?_
      obtain ⟨σ113, h113, hf⟩ := o_b1 hf
      refine j_callV (ci := 4) (Cn := "TollLedger$Taking") (T := T_TK) (N := 13) C [.int x2, .int x4, .int r78] [] (m_TK_planCrossing _ _ _ _ _ x2 x4 r78 σ101 h113) (gdV wd_2_219 wd_2_220 wd_2_221 wd_1_8 wc_TK_planCrossing) hy_TK_planCrossing rfl ⟨4, rfl⟩ rfl rfl (by decide) (by decide) (by decide) (by decide) (Nat.le_of_ble_eq_true rfl) d_TL_offer_113 (j_kV (σ1 := σ113) ?_)
      refine j_iload C 7 rfl d_TL_offer_116 ?_
      refine j_iconst C (v := 2) (by decide) d_TL_offer_118 ?_
      refine j_icmp_ne C d_TL_offer_119 rfl (fun c119 => ?_) (fun c119 => ?_)
      · have hf := o_if c119 hf
        refine j_sub [2, 3, 4, 5, 6, 7] rfl ?_
        exact w_TL_offer_c133 C Rt hP hx  x1 x2 x3 x4 x5 σ113 hf
      · have hf := o_it c119 hf
        refine j_aload_n C 2 rfl rfl d_TL_offer_122 ?_
        refine g_TL_taking C (List.mem_cons_of_mem _ wd_1_219) d_TL_offer_123 ?_
        refine g_TK_taken C (List.mem_cons_of_mem _ wd_1_175) d_TL_offer_126 ?_
        refine j_iload_n C 4 rfl rfl d_TL_offer_129 ?_
        refine j_icmp_lt C d_TL_offer_130 rfl (fun c130 => ?_) (fun c130 => ?_)
        · have hf := o_it c130 hf
          refine j_bipush C (v := 25) (by decide) d_TL_offer_149 ?_
          exact j_iret C Rt (Nat.zero_le _) (Nat.zero_le _) d_TL_offer_151 (hP _ _ (Option.some.inj hf))
        · have hf := o_if c130 hf
          refine j_sub [2, 3, 4, 5, 6, 7] rfl ?_
          exact w_TL_offer_c133 C Rt hP hx  x1 x2 x3 x4 x5 σ113 hf
    · have hf := o_it c85 hf
      refine j_bipush C (v := 22) (by decide) d_TL_offer_88 ?_
      exact j_iret C Rt (Nat.zero_le _) (Nat.zero_le _) d_TL_offer_90 (hP _ _ (Option.some.inj hf))
  · have hf := o_if c63 hf
    refine j_iload C 0 rfl d_TL_offer_66 ?_
    exact j_iret C Rt (Nat.zero_le _) (Nat.zero_le _) d_TL_offer_68 (hP _ _ (Option.some.inj hf))
def TL_offer (x1 : Int32) (x2 : Int32) (x3 : Int32) (x4 : Int32) (x5 : Int32) (σ : ST) : Option (Int32 × ST × Option (Int32 × Int32 × Int32 × Int32 × Int32)) :=
  bd1 (TL_isAsset x1) fun r2 =>
  if r2 = 0 then (TL_offer_c56 x1 x2 x3 x4 x5 (0 : Int32) σ)
  else (bd1 (TL_isAsset x3) fun r9 =>
  if r9 = 0 then (TL_offer_c56 x1 x2 x3 x4 x5 (0 : Int32) σ)
  else (if x1 = x3 then (TL_offer_c56 x1 x2 x3 x4 x5 (0 : Int32) σ)
  else (bd1 (TL_isWithin x2 (1 : Int32) (100000 : Int32)) fun r24 =>
  if r24 = 0 then (TL_offer_c56 x1 x2 x3 x4 x5 (0 : Int32) σ)
  else (bd1 (TL_isWithin x4 (1 : Int32) (100000 : Int32)) fun r35 =>
  if r35 = 0 then (TL_offer_c56 x1 x2 x3 x4 x5 (0 : Int32) σ)
  else (bd1 (TL_isWithin x5 (0 : Int32) (2 : Int32)) fun r45 =>
  if r45 = 0 then (TL_offer_c56 x1 x2 x3 x4 x5 (0 : Int32) σ)
  else (TL_offer_c56 x1 x2 x3 x4 x5 (1 : Int32) σ))))))
set_option maxRecDepth 100000 in
set_option maxHeartbeats 4000000 in
theorem w_TL_offer_e {X : JX} (C : JC X l D (ttf cs) eE b_TL_offer "TollLedger" 10 (Cond.code y_TL_offer b_TL_offer 10 r_TL_offer :: BIG) 8 183 2 21) {res : Int32 × ST × Option (Int32 × Int32 × Int32 × Int32 × Int32)} {P : Option Value → ST → Prop} (Rt : JR X (wfm ad cs) 2 21 P r_TL_offer "offer") (hP : ∀ (v : Int32) (σ : ST), (v, σ, none) = res → P (some (.int v)) σ) (hx : ∀ (y1 : Int32) (y2 : Int32) (y3 : Int32) (y4 : Int32) (y5 : Int32) (σ : ST), (0, σ, some (y1, y2, y3, y4, y5)) = res → J (wfm ad cs) X 10 0 0 σ 285 [] [.int y5, .int y4, .int y3, .int y2, .int y1, .ref (ad 1)]) (x1 : Int32) (x2 : Int32) (x3 : Int32) (x4 : Int32) (x5 : Int32) (σ : ST) (hf : TL_offer x1 x2 x3 x4 x5 σ = some res) : J (wfm ad cs) X 10 0 0 σ 0 [(0, .ref (ad 0)), (1, .int x1), (2, .int x2), (3, .int x3), (4, .int x4), (5, .int x5)] [] := by
  unfold TL_offer at hf
  refine j_aload_n C 0 rfl rfl d_TL_offer_0 ?_
  refine j_iload_n C 1 rfl rfl d_TL_offer_1 ?_
  obtain ⟨r2, h2, hf⟩ := o_b1 hf
  refine j_callS C [.int x1] [.ref (ad 0)] (m_TL_isAsset _ _ _ _ _ x1 σ h2) (gdS wd_2_115 wd_2_116 wd_1_1 wc_TL_isAsset) hy_TL_isAsset rfl rfl (by decide) (by decide) (by decide) (by decide) (Nat.le_of_ble_eq_true rfl) d_TL_offer_2 (j_kI (r := r2) (σ1 := σ) ?_)
  refine j_if_eq C d_TL_offer_5 rfl (fun c5 => ?_) (fun c5 => ?_)
  · have hf := o_it c5 hf
    refine j_iconst C (v := 0) (by decide) d_TL_offer_55 ?_
    exact w_TL_offer_c56 C Rt hP hx  x1 x2 x3 x4 x5 (0 : Int32) σ hf
  · have hf := o_if c5 hf
    refine j_iload_n C 3 rfl rfl d_TL_offer_8 ?_
    obtain ⟨r9, h9, hf⟩ := o_b1 hf
    refine j_callS C [.int x3] [.ref (ad 0)] (m_TL_isAsset _ _ _ _ _ x3 σ h9) (gdS wd_2_115 wd_2_116 wd_1_1 wc_TL_isAsset) hy_TL_isAsset rfl rfl (by decide) (by decide) (by decide) (by decide) (Nat.le_of_ble_eq_true rfl) d_TL_offer_9 (j_kI (r := r9) (σ1 := σ) ?_)
    refine j_if_eq C d_TL_offer_12 rfl (fun c12 => ?_) (fun c12 => ?_)
    · have hf := o_it c12 hf
      refine j_iconst C (v := 0) (by decide) d_TL_offer_55 ?_
      exact w_TL_offer_c56 C Rt hP hx  x1 x2 x3 x4 x5 (0 : Int32) σ hf
    · have hf := o_if c12 hf
      refine j_iload_n C 1 rfl rfl d_TL_offer_15 ?_
      refine j_iload_n C 3 rfl rfl d_TL_offer_16 ?_
      refine j_icmp_eq C d_TL_offer_17 rfl (fun c17 => ?_) (fun c17 => ?_)
      · have hf := o_it c17 hf
        refine j_iconst C (v := 0) (by decide) d_TL_offer_55 ?_
        exact w_TL_offer_c56 C Rt hP hx  x1 x2 x3 x4 x5 (0 : Int32) σ hf
      · have hf := o_if c17 hf
        refine j_iload_n C 2 rfl rfl d_TL_offer_20 ?_
        refine j_iconst C (v := 1) (by decide) d_TL_offer_21 ?_
        refine j_ldc C (v := 100000) (List.mem_cons_of_mem _ wd_2_100) d_TL_offer_22 ?_
        obtain ⟨r24, h24, hf⟩ := o_b1 hf
        refine j_callS C [.int x2, .int (1 : Int32), .int (100000 : Int32)] [.ref (ad 0)] (m_TL_isWithin _ _ _ _ _ x2 (1 : Int32) (100000 : Int32) σ h24) (gdS wd_2_16 wd_2_17 wd_1_1 wc_TL_isWithin) hy_TL_isWithin rfl rfl (by decide) (by decide) (by decide) (by decide) (Nat.le_of_ble_eq_true rfl) d_TL_offer_24 (j_kI (r := r24) (σ1 := σ) ?_)
        refine j_if_eq C d_TL_offer_27 rfl (fun c27 => ?_) (fun c27 => ?_)
        · have hf := o_it c27 hf
          refine j_iconst C (v := 0) (by decide) d_TL_offer_55 ?_
          exact w_TL_offer_c56 C Rt hP hx  x1 x2 x3 x4 x5 (0 : Int32) σ hf
        · have hf := o_if c27 hf
          refine j_iload C 4 rfl d_TL_offer_30 ?_
          refine j_iconst C (v := 1) (by decide) d_TL_offer_32 ?_
          refine j_ldc C (v := 100000) (List.mem_cons_of_mem _ wd_2_100) d_TL_offer_33 ?_
          obtain ⟨r35, h35, hf⟩ := o_b1 hf
          refine j_callS C [.int x4, .int (1 : Int32), .int (100000 : Int32)] [.ref (ad 0)] (m_TL_isWithin _ _ _ _ _ x4 (1 : Int32) (100000 : Int32) σ h35) (gdS wd_2_16 wd_2_17 wd_1_1 wc_TL_isWithin) hy_TL_isWithin rfl rfl (by decide) (by decide) (by decide) (by decide) (Nat.le_of_ble_eq_true rfl) d_TL_offer_35 (j_kI (r := r35) (σ1 := σ) ?_)
          refine j_if_eq C d_TL_offer_38 rfl (fun c38 => ?_) (fun c38 => ?_)
          · have hf := o_it c38 hf
            refine j_iconst C (v := 0) (by decide) d_TL_offer_55 ?_
            exact w_TL_offer_c56 C Rt hP hx  x1 x2 x3 x4 x5 (0 : Int32) σ hf
          · have hf := o_if c38 hf
            refine j_iload C 5 rfl d_TL_offer_41 ?_
            refine j_iconst C (v := 0) (by decide) d_TL_offer_43 ?_
            refine j_iconst C (v := 2) (by decide) d_TL_offer_44 ?_
            obtain ⟨r45, h45, hf⟩ := o_b1 hf
            refine j_callS C [.int x5, .int (0 : Int32), .int (2 : Int32)] [.ref (ad 0)] (m_TL_isWithin _ _ _ _ _ x5 (0 : Int32) (2 : Int32) σ h45) (gdS wd_2_16 wd_2_17 wd_1_1 wc_TL_isWithin) hy_TL_isWithin rfl rfl (by decide) (by decide) (by decide) (by decide) (Nat.le_of_ble_eq_true rfl) d_TL_offer_45 (j_kI (r := r45) (σ1 := σ) ?_)
            refine j_if_eq C d_TL_offer_48 rfl (fun c48 => ?_) (fun c48 => ?_)
            · have hf := o_it c48 hf
              refine j_iconst C (v := 0) (by decide) d_TL_offer_55 ?_
              exact w_TL_offer_c56 C Rt hP hx  x1 x2 x3 x4 x5 (0 : Int32) σ hf
            · have hf := o_if c48 hf
              refine j_iconst C (v := 1) (by decide) d_TL_offer_51 ?_
              refine j_goto C d_TL_offer_52 rfl ?_
              exact w_TL_offer_c56 C Rt hP hx  x1 x2 x3 x4 x5 (1 : Int32) σ hf
theorem d_TL_deposit_0 : decode b_TL_deposit 0 = .ok (.aload_n 0, 1) := by decide +kernel
theorem d_TL_deposit_1 : decode b_TL_deposit 1 = .ok (.aload_n 0, 1) := by decide +kernel
theorem d_TL_deposit_2 : decode b_TL_deposit 2 = .ok (.iload_n 1, 1) := by decide +kernel
theorem d_TL_deposit_3 : decode b_TL_deposit 3 = .ok (.invokevirtual 54, 3) := by decide +kernel
theorem d_TL_deposit_6 : decode b_TL_deposit 6 = .ok (.ifCond .eq 35, 3) := by decide +kernel
theorem d_TL_deposit_9 : decode b_TL_deposit 9 = .ok (.iload_n 2, 1) := by decide +kernel
theorem d_TL_deposit_10 : decode b_TL_deposit 10 = .ok (.iconst 1, 1) := by decide +kernel
theorem d_TL_deposit_11 : decode b_TL_deposit 11 = .ok (.ldc 39, 2) := by decide +kernel
theorem d_TL_deposit_13 : decode b_TL_deposit 13 = .ok (.invokestatic 47, 3) := by decide +kernel
theorem d_TL_deposit_16 : decode b_TL_deposit 16 = .ok (.ifCond .eq 25, 3) := by decide +kernel
theorem d_TL_deposit_19 : decode b_TL_deposit 19 = .ok (.iconst 0, 1) := by decide +kernel
theorem d_TL_deposit_20 : decode b_TL_deposit 20 = .ok (.iload_n 3, 1) := by decide +kernel
theorem d_TL_deposit_21 : decode b_TL_deposit 21 = .ok (.if_icmp .gt 20, 3) := by decide +kernel
theorem d_TL_deposit_24 : decode b_TL_deposit 24 = .ok (.iload_n 3, 1) := by decide +kernel
theorem d_TL_deposit_25 : decode b_TL_deposit 25 = .ok (.iload 4, 2) := by decide +kernel
theorem d_TL_deposit_27 : decode b_TL_deposit 27 = .ok (.if_icmp .ge 14, 3) := by decide +kernel
theorem d_TL_deposit_30 : decode b_TL_deposit 30 = .ok (.iload 4, 2) := by decide +kernel
theorem d_TL_deposit_32 : decode b_TL_deposit 32 = .ok (.ldc 82, 2) := by decide +kernel
theorem d_TL_deposit_34 : decode b_TL_deposit 34 = .ok (.if_icmp .gt 7, 3) := by decide +kernel
theorem d_TL_deposit_37 : decode b_TL_deposit 37 = .ok (.iconst 1, 1) := by decide +kernel
theorem d_TL_deposit_38 : decode b_TL_deposit 38 = .ok (.goto 4, 3) := by decide +kernel
theorem d_TL_deposit_41 : decode b_TL_deposit 41 = .ok (.iconst 0, 1) := by decide +kernel
theorem d_TL_deposit_42 : decode b_TL_deposit 42 = .ok (.invokevirtual 57, 3) := by decide +kernel
theorem d_TL_deposit_45 : decode b_TL_deposit 45 = .ok (.istore 5, 2) := by decide +kernel
theorem d_TL_deposit_47 : decode b_TL_deposit 47 = .ok (.iload 5, 2) := by decide +kernel
theorem d_TL_deposit_49 : decode b_TL_deposit 49 = .ok (.ifCond .eq 6, 3) := by decide +kernel
theorem d_TL_deposit_52 : decode b_TL_deposit 52 = .ok (.iload 5, 2) := by decide +kernel
theorem d_TL_deposit_54 : decode b_TL_deposit 54 = .ok (.ireturn, 1) := by decide +kernel
theorem d_TL_deposit_55 : decode b_TL_deposit 55 = .ok (.aload_n 0, 1) := by decide +kernel
theorem d_TL_deposit_56 : decode b_TL_deposit 56 = .ok (.getfield 10, 3) := by decide +kernel
theorem d_TL_deposit_59 : decode b_TL_deposit 59 = .ok (.getfield 61, 3) := by decide +kernel
theorem d_TL_deposit_62 : decode b_TL_deposit 62 = .ok (.iload_n 1, 1) := by decide +kernel
theorem d_TL_deposit_63 : decode b_TL_deposit 63 = .ok (.aaload, 1) := by decide +kernel
theorem d_TL_deposit_64 : decode b_TL_deposit 64 = .ok (.getfield 65, 3) := by decide +kernel
theorem d_TL_deposit_67 : decode b_TL_deposit 67 = .ok (.ifCond .ne 6, 3) := by decide +kernel
theorem d_TL_deposit_70 : decode b_TL_deposit 70 = .ok (.bipush 21, 2) := by decide +kernel
theorem d_TL_deposit_72 : decode b_TL_deposit 72 = .ok (.ireturn, 1) := by decide +kernel
theorem d_TL_deposit_73 : decode b_TL_deposit 73 = .ok (.aload_n 0, 1) := by decide +kernel
theorem d_TL_deposit_74 : decode b_TL_deposit 74 = .ok (.getfield 10, 3) := by decide +kernel
theorem d_TL_deposit_77 : decode b_TL_deposit 77 = .ok (.getfield 180, 3) := by decide +kernel
theorem d_TL_deposit_80 : decode b_TL_deposit 80 = .ok (.invokevirtual 183, 3) := by decide +kernel
theorem d_TL_deposit_83 : decode b_TL_deposit 83 = .ok (.bipush 6, 2) := by decide +kernel
theorem d_TL_deposit_85 : decode b_TL_deposit 85 = .ok (.if_icmp .lt 6, 3) := by decide +kernel
theorem d_TL_deposit_88 : decode b_TL_deposit 88 = .ok (.bipush 23, 2) := by decide +kernel
theorem d_TL_deposit_90 : decode b_TL_deposit 90 = .ok (.ireturn, 1) := by decide +kernel
theorem d_TL_deposit_91 : decode b_TL_deposit 91 = .ok (.aload_n 0, 1) := by decide +kernel
theorem d_TL_deposit_92 : decode b_TL_deposit 92 = .ok (.getfield 10, 3) := by decide +kernel
theorem d_TL_deposit_95 : decode b_TL_deposit 95 = .ok (.aload_n 0, 1) := by decide +kernel
theorem d_TL_deposit_96 : decode b_TL_deposit 96 = .ok (.getfield 32, 3) := by decide +kernel
theorem d_TL_deposit_99 : decode b_TL_deposit 99 = .ok (.iload_n 2, 1) := by decide +kernel
theorem d_TL_deposit_100 : decode b_TL_deposit 100 = .ok (.invokevirtual 96, 3) := by decide +kernel
theorem d_TL_deposit_103 : decode b_TL_deposit 103 = .ok (.ifCond .ne 6, 3) := by decide +kernel
theorem d_TL_deposit_106 : decode b_TL_deposit 106 = .ok (.bipush 22, 2) := by decide +kernel
theorem d_TL_deposit_108 : decode b_TL_deposit 108 = .ok (.ireturn, 1) := by decide +kernel
theorem d_TL_deposit_109 : decode b_TL_deposit 109 = .ok (.aload_n 0, 1) := by decide +kernel
theorem d_TL_deposit_110 : decode b_TL_deposit 110 = .ok (.getfield 10, 3) := by decide +kernel
theorem d_TL_deposit_113 : decode b_TL_deposit 113 = .ok (.aload_n 0, 1) := by decide +kernel
theorem d_TL_deposit_114 : decode b_TL_deposit 114 = .ok (.getfield 32, 3) := by decide +kernel
theorem d_TL_deposit_117 : decode b_TL_deposit 117 = .ok (.iconst 0, 1) := by decide +kernel
theorem d_TL_deposit_118 : decode b_TL_deposit 118 = .ok (.iload_n 2, 1) := by decide +kernel
theorem d_TL_deposit_119 : decode b_TL_deposit 119 = .ok (.ineg, 1) := by decide +kernel
theorem d_TL_deposit_120 : decode b_TL_deposit 120 = .ok (.invokevirtual 75, 3) := by decide +kernel
theorem d_TL_deposit_123 : decode b_TL_deposit 123 = .ok (.aload_n 0, 1) := by decide +kernel
theorem d_TL_deposit_124 : decode b_TL_deposit 124 = .ok (.getfield 10, 3) := by decide +kernel
theorem d_TL_deposit_127 : decode b_TL_deposit 127 = .ok (.aload_n 0, 1) := by decide +kernel
theorem d_TL_deposit_128 : decode b_TL_deposit 128 = .ok (.getfield 32, 3) := by decide +kernel
theorem d_TL_deposit_131 : decode b_TL_deposit 131 = .ok (.iload_n 1, 1) := by decide +kernel
theorem d_TL_deposit_132 : decode b_TL_deposit 132 = .ok (.iload_n 2, 1) := by decide +kernel
theorem d_TL_deposit_133 : decode b_TL_deposit 133 = .ok (.iload_n 3, 1) := by decide +kernel
theorem d_TL_deposit_134 : decode b_TL_deposit 134 = .ok (.iload 4, 2) := by decide +kernel
theorem d_TL_deposit_136 : decode b_TL_deposit 136 = .ok (.invokevirtual 186, 3) := by decide +kernel
theorem d_TL_deposit_139 : decode b_TL_deposit 139 = .ok (.iconst 0, 1) := by decide +kernel
theorem d_TL_deposit_140 : decode b_TL_deposit 140 = .ok (.ireturn, 1) := by decide +kernel
def TL_deposit_c42 (x1 : Int32) (x2 : Int32) (x3 : Int32) (x4 : Int32) (s1 : Int32) (σ : ST) : Option (Int32 × ST × Option (Int32 × Int32 × Int32 × Int32 × Int32)) :=
  bd2 (TL_charge s1 σ) fun r42 σ42 =>
  if r42 = 0 then (if x1 < 0 ∨ 6 ≤ x1.toNatClampNeg then none else
  bd1 (gR σ42 0 x1.toNatClampNeg) fun q63 =>
  if ¬ (q63 ∈ pL σ42 ∧ pK σ42 q63 = 1) then none else
  if (pP σ42 q63 0) = 0 then (some ((21 : Int32), σ42, none))
  else (bd1 (AL_size_DL σ42) fun r80 =>
  if r80 < (6 : Int32) then (bd1 (ST_affordsOneMore (gI σ42 0) x2 σ42) fun r100 =>
  if r100 = 0 then (some ((22 : Int32), σ42, none))
  else (bd1 (ST_change (gI σ42 0) (0 : Int32) (-x2) σ42) fun σ120 =>
  some (0, σ120, some ((gI σ120 0), x1, x2, x3, x4))))
  else (some ((23 : Int32), σ42, none))))
  else (some (r42, σ42, none))
set_option maxRecDepth 100000 in
set_option maxHeartbeats 4000000 in
theorem w_TL_deposit_c42 {X : JX} (C : JC X l D (ttf cs) eE b_TL_deposit "TollLedger" 6 (Cond.code y_TL_deposit b_TL_deposit 6 r_TL_deposit :: BIG) 8 183 2 21) {res : Int32 × ST × Option (Int32 × Int32 × Int32 × Int32 × Int32)} {P : Option Value → ST → Prop} (Rt : JR X (wfm ad cs) 2 21 P r_TL_deposit "deposit") (hP : ∀ (v : Int32) (σ : ST), (v, σ, none) = res → P (some (.int v)) σ) (hx : ∀ (y1 : Int32) (y2 : Int32) (y3 : Int32) (y4 : Int32) (y5 : Int32) (σ : ST), (0, σ, some (y1, y2, y3, y4, y5)) = res → J (wfm ad cs) X 6 0 0 σ 136 [] [.int y5, .int y4, .int y3, .int y2, .int y1, .ref (ad 1)])  (x1 : Int32) (x2 : Int32) (x3 : Int32) (x4 : Int32) (s1 : Int32) (σ : ST) (hf : TL_deposit_c42 x1 x2 x3 x4 s1 σ = some res) : J (wfm ad cs) X 6 0 0 σ 42 [(0, .ref (ad 0)), (1, .int x1), (2, .int x2), (3, .int x3), (4, .int x4)] [.int s1, .ref (ad 0)] := by
  unfold TL_deposit_c42 at hf
  obtain ⟨r42, σ42, h42, hf⟩ := o_b2 hf
  refine j_callV (ci := 0) (Cn := "TollLedger") (T := T_TL) (N := 10) C [.int s1] [] (m_TL_charge _ _ _ _ _ s1 σ h42) (gdV wd_2_27 wd_2_29 wp_1 wd_1_1 wc_TL_charge) hy_TL_charge rfl ⟨0, rfl⟩ rfl rfl (by decide) (by decide) (by decide) (by decide) (Nat.le_of_ble_eq_true rfl) d_TL_deposit_42 (j_kI (r := r42) (σ1 := σ42) ?_)
  refine j_istore C (by decide) (loc' := [(5, .int r42), (0, .ref (ad 0)), (1, .int x1), (2, .int x2), (3, .int x3), (4, .int x4)]) rfl d_TL_deposit_45 ?_
  refine j_iload C 0 rfl d_TL_deposit_47 ?_
  refine j_if_eq C d_TL_deposit_49 rfl (fun c49 => ?_) (fun c49 => ?_)
  · have hf := o_it c49 hf
    refine j_aload_n C 1 rfl rfl d_TL_deposit_55 ?_
    refine g_TL_state C (List.mem_cons_of_mem _ wd_1_218) d_TL_deposit_56 ?_
    refine g_ST_accounts C (List.mem_cons_of_mem _ wd_1_112) d_TL_deposit_59 ?_
    refine j_iload_n C 2 rfl rfl d_TL_deposit_62 ?_
    obtain ⟨g63, hf⟩ := o_gn hf
    obtain ⟨q63, hq63, hf⟩ := o_b1 hf
    refine la_acc C g63 hq63 d_TL_deposit_63 ?_
    obtain ⟨g64, hf⟩ := o_gn hf
    refine gp_Account_exists C (Decidable.not_not.mp g64) (List.mem_cons_of_mem _ wd_1_91) d_TL_deposit_64 ?_
    refine j_if_ne C d_TL_deposit_67 rfl (fun c67 => ?_) (fun c67 => ?_)
    · have hf := o_if c67 hf
      refine j_aload_n C 1 rfl rfl d_TL_deposit_73 ?_
      refine g_TL_state C (List.mem_cons_of_mem _ wd_1_218) d_TL_deposit_74 ?_
      refine g_ST_deposits C (List.mem_cons_of_mem _ wd_1_122) d_TL_deposit_77 ?_
      obtain ⟨r80, h80, hf⟩ := o_b1 hf
      refine j_callV (ci := 9) (Cn := "java/util/ArrayList") (T := T_AL) (N := 3) C [] [] (m_AL_size_DL _ _ _ _ _ σ42 h80) (gdV wd_3_1 wd_2_55 wd_2_56 wd_1_6 wc_AL_size) hy_AL_size rfl ⟨7, rfl⟩ rfl rfl (by decide) (by decide) (by decide) (by decide) (Nat.le_of_ble_eq_true rfl) d_TL_deposit_80 (j_kI (r := r80) (σ1 := σ42) ?_)
      refine j_bipush C (v := 6) (by decide) d_TL_deposit_83 ?_
      refine j_icmp_lt C d_TL_deposit_85 rfl (fun c85 => ?_) (fun c85 => ?_)
      · have hf := o_it c85 hf
        refine j_aload_n C 1 rfl rfl d_TL_deposit_91 ?_
        refine g_TL_state C (List.mem_cons_of_mem _ wd_1_218) d_TL_deposit_92 ?_
        refine j_aload_n C 1 rfl rfl d_TL_deposit_95 ?_
        refine g_TL_signer C (List.mem_cons_of_mem _ wd_1_221) d_TL_deposit_96 ?_
        refine j_iload_n C 3 rfl rfl d_TL_deposit_99 ?_
        obtain ⟨r100, h100, hf⟩ := o_b1 hf
        refine j_callV (ci := 1) (Cn := "TollLedger$State") (T := T_ST) (N := 6) C [.int (gI σ42 0), .int x2] [] (m_ST_affordsOneMore _ _ _ _ _ (gI σ42 0) x2 σ42 h100) (gdV wd_2_103 wd_2_104 wd_2_105 wd_1_2 wc_ST_affordsOneMore) hy_ST_affordsOneMore rfl ⟨1, rfl⟩ rfl rfl (by decide) (by decide) (by decide) (by decide) (Nat.le_of_ble_eq_true rfl) d_TL_deposit_100 (j_kI (r := r100) (σ1 := σ42) ?_)
        refine j_if_ne C d_TL_deposit_103 rfl (fun c103 => ?_) (fun c103 => ?_)
        · have hf := o_if c103 hf
          refine j_aload_n C 1 rfl rfl d_TL_deposit_109 ?_
          refine g_TL_state C (List.mem_cons_of_mem _ wd_1_218) d_TL_deposit_110 ?_
          refine j_aload_n C 1 rfl rfl d_TL_deposit_113 ?_
          refine g_TL_signer C (List.mem_cons_of_mem _ wd_1_221) d_TL_deposit_114 ?_
          refine j_iconst C (v := 0) (by decide) d_TL_deposit_117 ?_
          refine j_iload_n C 3 rfl rfl d_TL_deposit_118 ?_
          refine j_ineg C d_TL_deposit_119 ?_
          obtain ⟨σ120, h120, hf⟩ := o_b1 hf
          refine j_callV (ci := 1) (Cn := "TollLedger$State") (T := T_ST) (N := 6) C [.int (gI σ42 0), .int (0 : Int32), .int (-x2)] [] (m_ST_change _ _ _ _ _ (gI σ42 0) (0 : Int32) (-x2) σ42 h120) (gdV wd_2_85 wd_2_86 wd_2_87 wd_1_2 wc_ST_change) hy_ST_change rfl ⟨1, rfl⟩ rfl rfl (by decide) (by decide) (by decide) (by decide) (Nat.le_of_ble_eq_true rfl) d_TL_deposit_120 (j_kV (σ1 := σ120) ?_)
          refine j_aload_n C 1 rfl rfl d_TL_deposit_123 ?_
          refine g_TL_state C (List.mem_cons_of_mem _ wd_1_218) d_TL_deposit_124 ?_
          refine j_aload_n C 1 rfl rfl d_TL_deposit_127 ?_
          refine g_TL_signer C (List.mem_cons_of_mem _ wd_1_221) d_TL_deposit_128 ?_
          refine j_iload_n C 2 rfl rfl d_TL_deposit_131 ?_
          refine j_iload_n C 3 rfl rfl d_TL_deposit_132 ?_
          refine j_iload_n C 4 rfl rfl d_TL_deposit_133 ?_
          refine j_iload C 5 rfl d_TL_deposit_134 ?_
          refine j_sub [] rfl ?_
          exact hx (gI σ120 0) x1 x2 x3 x4 σ120 (Option.some.inj hf)
        · have hf := o_it c103 hf
          refine j_bipush C (v := 22) (by decide) d_TL_deposit_106 ?_
          exact j_iret C Rt (Nat.zero_le _) (Nat.zero_le _) d_TL_deposit_108 (hP _ _ (Option.some.inj hf))
      · have hf := o_if c85 hf
        refine j_bipush C (v := 23) (by decide) d_TL_deposit_88 ?_
        exact j_iret C Rt (Nat.zero_le _) (Nat.zero_le _) d_TL_deposit_90 (hP _ _ (Option.some.inj hf))
    · have hf := o_it c67 hf
      refine j_bipush C (v := 21) (by decide) d_TL_deposit_70 ?_
      exact j_iret C Rt (Nat.zero_le _) (Nat.zero_le _) d_TL_deposit_72 (hP _ _ (Option.some.inj hf))
  · have hf := o_if c49 hf
    refine j_iload C 0 rfl d_TL_deposit_52 ?_
    exact j_iret C Rt (Nat.zero_le _) (Nat.zero_le _) d_TL_deposit_54 (hP _ _ (Option.some.inj hf))
def TL_deposit (x1 : Int32) (x2 : Int32) (x3 : Int32) (x4 : Int32) (σ : ST) : Option (Int32 × ST × Option (Int32 × Int32 × Int32 × Int32 × Int32)) :=
  bd1 (TL_isOther x1 σ) fun r3 =>
  if r3 = 0 then (TL_deposit_c42 x1 x2 x3 x4 (0 : Int32) σ)
  else (bd1 (TL_isWithin x2 (1 : Int32) (1000000 : Int32)) fun r13 =>
  if r13 = 0 then (TL_deposit_c42 x1 x2 x3 x4 (0 : Int32) σ)
  else (if x3 < (0 : Int32) then (TL_deposit_c42 x1 x2 x3 x4 (0 : Int32) σ)
  else (if x4 ≤ x3 then (TL_deposit_c42 x1 x2 x3 x4 (0 : Int32) σ)
  else (if (100000 : Int32) < x4 then (TL_deposit_c42 x1 x2 x3 x4 (0 : Int32) σ)
  else (TL_deposit_c42 x1 x2 x3 x4 (1 : Int32) σ)))))
set_option maxRecDepth 100000 in
set_option maxHeartbeats 4000000 in
theorem w_TL_deposit_e {X : JX} (C : JC X l D (ttf cs) eE b_TL_deposit "TollLedger" 6 (Cond.code y_TL_deposit b_TL_deposit 6 r_TL_deposit :: BIG) 8 183 2 21) {res : Int32 × ST × Option (Int32 × Int32 × Int32 × Int32 × Int32)} {P : Option Value → ST → Prop} (Rt : JR X (wfm ad cs) 2 21 P r_TL_deposit "deposit") (hP : ∀ (v : Int32) (σ : ST), (v, σ, none) = res → P (some (.int v)) σ) (hx : ∀ (y1 : Int32) (y2 : Int32) (y3 : Int32) (y4 : Int32) (y5 : Int32) (σ : ST), (0, σ, some (y1, y2, y3, y4, y5)) = res → J (wfm ad cs) X 6 0 0 σ 136 [] [.int y5, .int y4, .int y3, .int y2, .int y1, .ref (ad 1)]) (x1 : Int32) (x2 : Int32) (x3 : Int32) (x4 : Int32) (σ : ST) (hf : TL_deposit x1 x2 x3 x4 σ = some res) : J (wfm ad cs) X 6 0 0 σ 0 [(0, .ref (ad 0)), (1, .int x1), (2, .int x2), (3, .int x3), (4, .int x4)] [] := by
  unfold TL_deposit at hf
  refine j_aload_n C 0 rfl rfl d_TL_deposit_0 ?_
  refine j_aload_n C 0 rfl rfl d_TL_deposit_1 ?_
  refine j_iload_n C 1 rfl rfl d_TL_deposit_2 ?_
  obtain ⟨r3, h3, hf⟩ := o_b1 hf
  refine j_callV (ci := 0) (Cn := "TollLedger") (T := T_TL) (N := 10) C [.int x1] [.ref (ad 0)] (m_TL_isOther _ _ _ _ _ x1 σ h3) (gdV wd_2_23 wd_2_25 wp_0 wd_1_1 wc_TL_isOther) hy_TL_isOther rfl ⟨0, rfl⟩ rfl rfl (by decide) (by decide) (by decide) (by decide) (Nat.le_of_ble_eq_true rfl) d_TL_deposit_3 (j_kI (r := r3) (σ1 := σ) ?_)
  refine j_if_eq C d_TL_deposit_6 rfl (fun c6 => ?_) (fun c6 => ?_)
  · have hf := o_it c6 hf
    refine j_iconst C (v := 0) (by decide) d_TL_deposit_41 ?_
    exact w_TL_deposit_c42 C Rt hP hx  x1 x2 x3 x4 (0 : Int32) σ hf
  · have hf := o_if c6 hf
    refine j_iload_n C 2 rfl rfl d_TL_deposit_9 ?_
    refine j_iconst C (v := 1) (by decide) d_TL_deposit_10 ?_
    refine j_ldc C (v := 1000000) (List.mem_cons_of_mem _ wd_1_217) d_TL_deposit_11 ?_
    obtain ⟨r13, h13, hf⟩ := o_b1 hf
    refine j_callS C [.int x2, .int (1 : Int32), .int (1000000 : Int32)] [.ref (ad 0)] (m_TL_isWithin _ _ _ _ _ x2 (1 : Int32) (1000000 : Int32) σ h13) (gdS wd_2_16 wd_2_17 wd_1_1 wc_TL_isWithin) hy_TL_isWithin rfl rfl (by decide) (by decide) (by decide) (by decide) (Nat.le_of_ble_eq_true rfl) d_TL_deposit_13 (j_kI (r := r13) (σ1 := σ) ?_)
    refine j_if_eq C d_TL_deposit_16 rfl (fun c16 => ?_) (fun c16 => ?_)
    · have hf := o_it c16 hf
      refine j_iconst C (v := 0) (by decide) d_TL_deposit_41 ?_
      exact w_TL_deposit_c42 C Rt hP hx  x1 x2 x3 x4 (0 : Int32) σ hf
    · have hf := o_if c16 hf
      refine j_iconst C (v := 0) (by decide) d_TL_deposit_19 ?_
      refine j_iload_n C 3 rfl rfl d_TL_deposit_20 ?_
      refine j_icmp_gt C d_TL_deposit_21 rfl (fun c21 => ?_) (fun c21 => ?_)
      · have hf := o_it c21 hf
        refine j_iconst C (v := 0) (by decide) d_TL_deposit_41 ?_
        exact w_TL_deposit_c42 C Rt hP hx  x1 x2 x3 x4 (0 : Int32) σ hf
      · have hf := o_if c21 hf
        refine j_iload_n C 3 rfl rfl d_TL_deposit_24 ?_
        refine j_iload C 4 rfl d_TL_deposit_25 ?_
        refine j_icmp_ge C d_TL_deposit_27 rfl (fun c27 => ?_) (fun c27 => ?_)
        · have hf := o_it c27 hf
          refine j_iconst C (v := 0) (by decide) d_TL_deposit_41 ?_
          exact w_TL_deposit_c42 C Rt hP hx  x1 x2 x3 x4 (0 : Int32) σ hf
        · have hf := o_if c27 hf
          refine j_iload C 4 rfl d_TL_deposit_30 ?_
          refine j_ldc C (v := 100000) (List.mem_cons_of_mem _ wd_2_100) d_TL_deposit_32 ?_
          refine j_icmp_gt C d_TL_deposit_34 rfl (fun c34 => ?_) (fun c34 => ?_)
          · have hf := o_it c34 hf
            refine j_iconst C (v := 0) (by decide) d_TL_deposit_41 ?_
            exact w_TL_deposit_c42 C Rt hP hx  x1 x2 x3 x4 (0 : Int32) σ hf
          · have hf := o_if c34 hf
            refine j_iconst C (v := 1) (by decide) d_TL_deposit_37 ?_
            refine j_goto C d_TL_deposit_38 rfl ?_
            exact w_TL_deposit_c42 C Rt hP hx  x1 x2 x3 x4 (1 : Int32) σ hf
end
