section
variable {l : Launch} {D : va_G} {ad : Nat → Nat} {cs : Nat → ClassId} {eE : Nat}
theorem d_MD_currencyOf_0 : decode b_MD_currencyOf 0 = .ok (.iconst 1, 1) := by decide +kernel
theorem d_MD_currencyOf_1 : decode b_MD_currencyOf 1 = .ok (.iload_n 0, 1) := by decide +kernel
theorem d_MD_currencyOf_2 : decode b_MD_currencyOf 2 = .ok (.iconst 1, 1) := by decide +kernel
theorem d_MD_currencyOf_3 : decode b_MD_currencyOf 3 = .ok (.isub, 1) := by decide +kernel
theorem d_MD_currencyOf_4 : decode b_MD_currencyOf 4 = .ok (.bipush 6, 2) := by decide +kernel
theorem d_MD_currencyOf_6 : decode b_MD_currencyOf 6 = .ok (.idiv, 1) := by decide +kernel
theorem d_MD_currencyOf_7 : decode b_MD_currencyOf 7 = .ok (.iadd, 1) := by decide +kernel
theorem d_MD_currencyOf_8 : decode b_MD_currencyOf 8 = .ok (.ireturn, 1) := by decide +kernel
def MD_currencyOf (x0 : Int32) : Option (Int32) :=
  some ((1 : Int32) + ((x0 - (1 : Int32)) / (6 : Int32)))
set_option maxRecDepth 100000 in
set_option maxHeartbeats 4000000 in
theorem m_MD_currencyOf (l : Launch) (D : va_G) (ad : Nat → Nat) (cs : Nat → ClassId) (eE : Nat) (x0 : Int32) (σ : ST) {res : Int32} (hf : MD_currencyOf x0 = some res) : MS l y_MD_currencyOf (Cond.code y_MD_currencyOf b_MD_currencyOf 1 r_MD_currencyOf :: BIG) 0 0 0 0 (wfm ad cs) D (ttf cs) eE [.int x0] σ (PI res σ) := by
  refine MS.of (cc := b_MD_currencyOf) (maxL := 1) (ret := r_MD_currencyOf) (by decide) rfl (Nat.le_of_ble_eq_true rfl) (loc := [(0, .int x0)]) rfl (fun X C Rt => ?_)
  unfold MD_currencyOf at hf
  refine j_iconst C (v := 1) (by decide) d_MD_currencyOf_0 ?_
  refine j_iload_n C 0 rfl rfl d_MD_currencyOf_1 ?_
  refine j_iconst C (v := 1) (by decide) d_MD_currencyOf_2 ?_
  refine j_isub C d_MD_currencyOf_3 ?_
  refine j_bipush C (v := 6) (by decide) d_MD_currencyOf_4 ?_
  refine j_idiv C (by decide) d_MD_currencyOf_6 ?_
  refine j_iadd C d_MD_currencyOf_7 ?_
  cases hf
  exact j_iret C Rt (Nat.le_refl _) (Nat.le_refl _) d_MD_currencyOf_8 ⟨rfl, rfl⟩
theorem d_MD_issuerOf_0 : decode b_MD_issuerOf 0 = .ok (.iload_n 0, 1) := by decide +kernel
theorem d_MD_issuerOf_1 : decode b_MD_issuerOf 1 = .ok (.iconst 1, 1) := by decide +kernel
theorem d_MD_issuerOf_2 : decode b_MD_issuerOf 2 = .ok (.isub, 1) := by decide +kernel
theorem d_MD_issuerOf_3 : decode b_MD_issuerOf 3 = .ok (.bipush 6, 2) := by decide +kernel
theorem d_MD_issuerOf_5 : decode b_MD_issuerOf 5 = .ok (.irem, 1) := by decide +kernel
theorem d_MD_issuerOf_6 : decode b_MD_issuerOf 6 = .ok (.ireturn, 1) := by decide +kernel
def MD_issuerOf (x0 : Int32) : Option (Int32) :=
  some (imod (x0 - (1 : Int32)) (6 : Int32))
set_option maxRecDepth 100000 in
set_option maxHeartbeats 4000000 in
theorem m_MD_issuerOf (l : Launch) (D : va_G) (ad : Nat → Nat) (cs : Nat → ClassId) (eE : Nat) (x0 : Int32) (σ : ST) {res : Int32} (hf : MD_issuerOf x0 = some res) : MS l y_MD_issuerOf (Cond.code y_MD_issuerOf b_MD_issuerOf 1 r_MD_issuerOf :: BIG) 0 0 0 0 (wfm ad cs) D (ttf cs) eE [.int x0] σ (PI res σ) := by
  refine MS.of (cc := b_MD_issuerOf) (maxL := 1) (ret := r_MD_issuerOf) (by decide) rfl (Nat.le_of_ble_eq_true rfl) (loc := [(0, .int x0)]) rfl (fun X C Rt => ?_)
  unfold MD_issuerOf at hf
  refine j_iload_n C 0 rfl rfl d_MD_issuerOf_0 ?_
  refine j_iconst C (v := 1) (by decide) d_MD_issuerOf_1 ?_
  refine j_isub C d_MD_issuerOf_2 ?_
  refine j_bipush C (v := 6) (by decide) d_MD_issuerOf_3 ?_
  refine j_irem C (by decide) d_MD_issuerOf_5 ?_
  cases hf
  exact j_iret C Rt (Nat.le_refl _) (Nat.le_refl _) d_MD_issuerOf_6 ⟨rfl, rfl⟩
theorem d_MD_owns_0 : decode b_MD_owns 0 = .ok (.aload_n 0, 1) := by decide +kernel
theorem d_MD_owns_1 : decode b_MD_owns 1 = .ok (.getfield 26, 3) := by decide +kernel
theorem d_MD_owns_4 : decode b_MD_owns 4 = .ok (.iload_n 1, 1) := by decide +kernel
theorem d_MD_owns_5 : decode b_MD_owns 5 = .ok (.iaload, 1) := by decide +kernel
theorem d_MD_owns_6 : decode b_MD_owns 6 = .ok (.ifCond .gt 12, 3) := by decide +kernel
theorem d_MD_owns_9 : decode b_MD_owns 9 = .ok (.aload_n 0, 1) := by decide +kernel
theorem d_MD_owns_10 : decode b_MD_owns 10 = .ok (.getfield 23, 3) := by decide +kernel
theorem d_MD_owns_13 : decode b_MD_owns 13 = .ok (.iload_n 1, 1) := by decide +kernel
theorem d_MD_owns_14 : decode b_MD_owns 14 = .ok (.iaload, 1) := by decide +kernel
theorem d_MD_owns_15 : decode b_MD_owns 15 = .ok (.ifCond .le 7, 3) := by decide +kernel
theorem d_MD_owns_18 : decode b_MD_owns 18 = .ok (.iconst 1, 1) := by decide +kernel
theorem d_MD_owns_19 : decode b_MD_owns 19 = .ok (.goto 4, 3) := by decide +kernel
theorem d_MD_owns_22 : decode b_MD_owns 22 = .ok (.iconst 0, 1) := by decide +kernel
theorem d_MD_owns_23 : decode b_MD_owns 23 = .ok (.ireturn, 1) := by decide +kernel
def MD_owns (x1 : Int32) (σ : ST) : Option (Int32) :=
  if x1 < 0 ∨ 72 ≤ x1.toNatClampNeg then none else
  if 0 < (gA σ 13 x1.toNatClampNeg) then (some (1 : Int32))
  else (if (gA σ 12 x1.toNatClampNeg) ≤ 0 then (some (0 : Int32))
  else (some (1 : Int32)))
set_option maxRecDepth 100000 in
set_option maxHeartbeats 4000000 in
theorem m_MD_owns (l : Launch) (D : va_G) (ad : Nat → Nat) (cs : Nat → ClassId) (eE : Nat) (x1 : Int32) (σ : ST) {res : Int32} (hf : MD_owns x1 σ = some res) : MS l y_MD_owns (Cond.code y_MD_owns b_MD_owns 2 r_MD_owns :: BIG) 0 0 0 0 (wfm ad cs) D (ttf cs) eE [.ref (ad 18), .int x1] σ (PI res σ) := by
  refine MS.of (cc := b_MD_owns) (maxL := 2) (ret := r_MD_owns) (by decide) rfl (Nat.le_of_ble_eq_true rfl) (loc := [(0, .ref (ad 18)), (1, .int x1)]) rfl (fun X C Rt => ?_)
  unfold MD_owns at hf
  refine j_aload_n C 0 rfl rfl d_MD_owns_0 ?_
  refine g_MD_limits C (List.mem_cons_of_mem _ wd_4_24) d_MD_owns_1 ?_
  refine j_iload_n C 1 rfl rfl d_MD_owns_4 ?_
  obtain ⟨g5, hf⟩ := o_gn hf
  refine la_m_limits C g5 d_MD_owns_5 ?_
  refine j_if_gt C d_MD_owns_6 rfl (fun c6 => ?_) (fun c6 => ?_)
  · have hf := o_it c6 hf
    refine j_iconst C (v := 1) (by decide) d_MD_owns_18 ?_
    refine j_goto C d_MD_owns_19 rfl ?_
    cases hf
    exact j_zret C Rt (by decide) (Nat.le_refl _) (Nat.le_refl _) d_MD_owns_23 ⟨rfl, rfl⟩
  · have hf := o_if c6 hf
    refine j_aload_n C 0 rfl rfl d_MD_owns_9 ?_
    refine g_MD_balances C (List.mem_cons_of_mem _ wd_4_23) d_MD_owns_10 ?_
    refine j_iload_n C 1 rfl rfl d_MD_owns_13 ?_
    refine la_m_balances C g5 d_MD_owns_14 ?_
    refine j_if_le C d_MD_owns_15 rfl (fun c15 => ?_) (fun c15 => ?_)
    · have hf := o_it c15 hf
      refine j_iconst C (v := 0) (by decide) d_MD_owns_22 ?_
      cases hf
      exact j_zret C Rt (by decide) (Nat.le_refl _) (Nat.le_refl _) d_MD_owns_23 ⟨rfl, rfl⟩
    · have hf := o_if c15 hf
      refine j_iconst C (v := 1) (by decide) d_MD_owns_18 ?_
      refine j_goto C d_MD_owns_19 rfl ?_
      cases hf
      exact j_zret C Rt (by decide) (Nat.le_refl _) (Nat.le_refl _) d_MD_owns_23 ⟨rfl, rfl⟩
theorem d_MD_pieces_0 : decode b_MD_pieces 0 = .ok (.iconst 0, 1) := by decide +kernel
theorem d_MD_pieces_1 : decode b_MD_pieces 1 = .ok (.istore_n 2, 1) := by decide +kernel
theorem d_MD_pieces_2 : decode b_MD_pieces 2 = .ok (.iconst 0, 1) := by decide +kernel
theorem d_MD_pieces_3 : decode b_MD_pieces 3 = .ok (.istore_n 3, 1) := by decide +kernel
theorem d_MD_pieces_4 : decode b_MD_pieces 4 = .ok (.iload_n 3, 1) := by decide +kernel
theorem d_MD_pieces_5 : decode b_MD_pieces 5 = .ok (.bipush 12, 2) := by decide +kernel
theorem d_MD_pieces_7 : decode b_MD_pieces 7 = .ok (.if_icmp .ge 30, 3) := by decide +kernel
theorem d_MD_pieces_10 : decode b_MD_pieces 10 = .ok (.iload_n 2, 1) := by decide +kernel
theorem d_MD_pieces_11 : decode b_MD_pieces 11 = .ok (.aload_n 0, 1) := by decide +kernel
theorem d_MD_pieces_12 : decode b_MD_pieces 12 = .ok (.bipush 12, 2) := by decide +kernel
theorem d_MD_pieces_14 : decode b_MD_pieces 14 = .ok (.iload_n 1, 1) := by decide +kernel
theorem d_MD_pieces_15 : decode b_MD_pieces 15 = .ok (.imul, 1) := by decide +kernel
theorem d_MD_pieces_16 : decode b_MD_pieces 16 = .ok (.iload_n 3, 1) := by decide +kernel
theorem d_MD_pieces_17 : decode b_MD_pieces 17 = .ok (.iadd, 1) := by decide +kernel
theorem d_MD_pieces_18 : decode b_MD_pieces 18 = .ok (.invokevirtual 106, 3) := by decide +kernel
theorem d_MD_pieces_21 : decode b_MD_pieces 21 = .ok (.ifCond .eq 7, 3) := by decide +kernel
theorem d_MD_pieces_24 : decode b_MD_pieces 24 = .ok (.iconst 1, 1) := by decide +kernel
theorem d_MD_pieces_25 : decode b_MD_pieces 25 = .ok (.goto 4, 3) := by decide +kernel
theorem d_MD_pieces_28 : decode b_MD_pieces 28 = .ok (.iconst 0, 1) := by decide +kernel
theorem d_MD_pieces_29 : decode b_MD_pieces 29 = .ok (.iadd, 1) := by decide +kernel
theorem d_MD_pieces_30 : decode b_MD_pieces 30 = .ok (.istore_n 2, 1) := by decide +kernel
theorem d_MD_pieces_31 : decode b_MD_pieces 31 = .ok (.iinc 3 1, 3) := by decide +kernel
theorem d_MD_pieces_34 : decode b_MD_pieces 34 = .ok (.goto (-30), 3) := by decide +kernel
theorem d_MD_pieces_37 : decode b_MD_pieces 37 = .ok (.iconst 0, 1) := by decide +kernel
theorem d_MD_pieces_38 : decode b_MD_pieces 38 = .ok (.istore_n 3, 1) := by decide +kernel
theorem d_MD_pieces_39 : decode b_MD_pieces 39 = .ok (.iload_n 3, 1) := by decide +kernel
theorem d_MD_pieces_40 : decode b_MD_pieces 40 = .ok (.aload_n 0, 1) := by decide +kernel
theorem d_MD_pieces_41 : decode b_MD_pieces 41 = .ok (.getfield 110, 3) := by decide +kernel
theorem d_MD_pieces_44 : decode b_MD_pieces 44 = .ok (.if_icmp .ge 27, 3) := by decide +kernel
theorem d_MD_pieces_47 : decode b_MD_pieces 47 = .ok (.iload_n 2, 1) := by decide +kernel
theorem d_MD_pieces_48 : decode b_MD_pieces 48 = .ok (.aload_n 0, 1) := by decide +kernel
theorem d_MD_pieces_49 : decode b_MD_pieces 49 = .ok (.getfield 35, 3) := by decide +kernel
theorem d_MD_pieces_52 : decode b_MD_pieces 52 = .ok (.iload_n 3, 1) := by decide +kernel
theorem d_MD_pieces_53 : decode b_MD_pieces 53 = .ok (.iaload, 1) := by decide +kernel
theorem d_MD_pieces_54 : decode b_MD_pieces 54 = .ok (.iload_n 1, 1) := by decide +kernel
theorem d_MD_pieces_55 : decode b_MD_pieces 55 = .ok (.if_icmp .ne 7, 3) := by decide +kernel
theorem d_MD_pieces_58 : decode b_MD_pieces 58 = .ok (.iconst 1, 1) := by decide +kernel
theorem d_MD_pieces_59 : decode b_MD_pieces 59 = .ok (.goto 4, 3) := by decide +kernel
theorem d_MD_pieces_62 : decode b_MD_pieces 62 = .ok (.iconst 0, 1) := by decide +kernel
theorem d_MD_pieces_63 : decode b_MD_pieces 63 = .ok (.iadd, 1) := by decide +kernel
theorem d_MD_pieces_64 : decode b_MD_pieces 64 = .ok (.istore_n 2, 1) := by decide +kernel
theorem d_MD_pieces_65 : decode b_MD_pieces 65 = .ok (.iinc 3 1, 3) := by decide +kernel
theorem d_MD_pieces_68 : decode b_MD_pieces 68 = .ok (.goto (-29), 3) := by decide +kernel
theorem d_MD_pieces_71 : decode b_MD_pieces 71 = .ok (.iconst 0, 1) := by decide +kernel
theorem d_MD_pieces_72 : decode b_MD_pieces 72 = .ok (.istore_n 3, 1) := by decide +kernel
theorem d_MD_pieces_73 : decode b_MD_pieces 73 = .ok (.iload_n 3, 1) := by decide +kernel
theorem d_MD_pieces_74 : decode b_MD_pieces 74 = .ok (.aload_n 0, 1) := by decide +kernel
theorem d_MD_pieces_75 : decode b_MD_pieces 75 = .ok (.getfield 113, 3) := by decide +kernel
theorem d_MD_pieces_78 : decode b_MD_pieces 78 = .ok (.if_icmp .ge 27, 3) := by decide +kernel
theorem d_MD_pieces_81 : decode b_MD_pieces 81 = .ok (.iload_n 2, 1) := by decide +kernel
theorem d_MD_pieces_82 : decode b_MD_pieces 82 = .ok (.aload_n 0, 1) := by decide +kernel
theorem d_MD_pieces_83 : decode b_MD_pieces 83 = .ok (.getfield 53, 3) := by decide +kernel
theorem d_MD_pieces_86 : decode b_MD_pieces 86 = .ok (.iload_n 3, 1) := by decide +kernel
theorem d_MD_pieces_87 : decode b_MD_pieces 87 = .ok (.iaload, 1) := by decide +kernel
theorem d_MD_pieces_88 : decode b_MD_pieces 88 = .ok (.iload_n 1, 1) := by decide +kernel
theorem d_MD_pieces_89 : decode b_MD_pieces 89 = .ok (.if_icmp .ne 7, 3) := by decide +kernel
theorem d_MD_pieces_92 : decode b_MD_pieces 92 = .ok (.iconst 1, 1) := by decide +kernel
theorem d_MD_pieces_93 : decode b_MD_pieces 93 = .ok (.goto 4, 3) := by decide +kernel
theorem d_MD_pieces_96 : decode b_MD_pieces 96 = .ok (.iconst 0, 1) := by decide +kernel
theorem d_MD_pieces_97 : decode b_MD_pieces 97 = .ok (.iadd, 1) := by decide +kernel
theorem d_MD_pieces_98 : decode b_MD_pieces 98 = .ok (.istore_n 2, 1) := by decide +kernel
theorem d_MD_pieces_99 : decode b_MD_pieces 99 = .ok (.iinc 3 1, 3) := by decide +kernel
theorem d_MD_pieces_102 : decode b_MD_pieces 102 = .ok (.goto (-29), 3) := by decide +kernel
theorem d_MD_pieces_105 : decode b_MD_pieces 105 = .ok (.iload_n 2, 1) := by decide +kernel
theorem d_MD_pieces_106 : decode b_MD_pieces 106 = .ok (.ireturn, 1) := by decide +kernel
def MD_pieces_c97 (kb73 : Int32 → Int32 → Int32 → ST → Option (Int32)) (x1 : Int32) (x3 : Int32) (s0 : Int32) (s1 : Int32) (σ : ST) : Option (Int32) :=
  nmI (s0 + s1) fun x2_98 =>
  kb73 x1 x2_98 (x3 + 1) σ
set_option maxRecDepth 100000 in
set_option maxHeartbeats 4000000 in
theorem w_MD_pieces_c97 {X : JX} (C : JC X l D (ttf cs) eE b_MD_pieces "TollLedgerModel" 4 (Cond.code y_MD_pieces b_MD_pieces 4 r_MD_pieces :: BIG) 1 21 0 0) {σ : ST} {res : Int32} (Rt : JR X (wfm ad cs) 0 0 (PI res σ) r_MD_pieces "pieces") {kb73 : Int32 → Int32 → Int32 → ST → Option (Int32)} (hk73 : ∀ (x1 : Int32) (x2 : Int32) (x3 : Int32), kb73 x1 x2 x3 σ = some res → J (wfm ad cs) X 4 0 0 σ 73 [(0, .ref (ad 18)), (1, .int x1), (2, .int x2), (3, .int x3)] []) (x1 : Int32) (x3 : Int32) (s0 : Int32) (s1 : Int32) (hf : MD_pieces_c97 kb73 x1 x3 s0 s1 σ = some res) : J (wfm ad cs) X 4 0 0 σ 97 [(0, .ref (ad 18)), (1, .int x1), (3, .int x3)] [.int s1, .int s0] := by
  unfold MD_pieces_c97 at hf
  refine j_iadd C d_MD_pieces_97 ?_
  obtain ⟨x2_98, ex2_98, hf⟩ := o_nmI hf
  refine j_topI ex2_98 ?_
  refine j_istore_n C rfl (by decide) (loc' := [(2, .int x2_98), (0, .ref (ad 18)), (1, .int x1), (3, .int x3)]) rfl d_MD_pieces_98 ?_
  refine j_iinc C 3 rfl (v := (x3 + 1)) (inc_p1 _) (by decide) (loc' := [(3, .int (x3 + 1)), (2, .int x2_98), (0, .ref (ad 18)), (1, .int x1)]) rfl d_MD_pieces_99 ?_
  refine j_goto C d_MD_pieces_102 rfl ?_
  refine j_sub [2, 3, 1, 0] rfl ?_
  exact hk73 x1 x2_98 (x3 + 1) hf
def MD_pieces_b73 (kb73 : Int32 → Int32 → Int32 → ST → Option (Int32)) (x1 : Int32) (x2 : Int32) (x3 : Int32) (σ : ST) : Option (Int32) :=
  if (gI σ 23) ≤ x3 then (some x2)
  else (if x3 < 0 ∨ 6 ≤ x3.toNatClampNeg then none else
  if (gA σ 22 x3.toNatClampNeg) = x1 then (MD_pieces_c97 kb73 x1 x3 x2 (1 : Int32) σ)
  else (MD_pieces_c97 kb73 x1 x3 x2 (0 : Int32) σ))
set_option maxRecDepth 100000 in
set_option maxHeartbeats 4000000 in
theorem w_MD_pieces_b73 {X : JX} (C : JC X l D (ttf cs) eE b_MD_pieces "TollLedgerModel" 4 (Cond.code y_MD_pieces b_MD_pieces 4 r_MD_pieces :: BIG) 1 21 0 0) {σ : ST} {res : Int32} (Rt : JR X (wfm ad cs) 0 0 (PI res σ) r_MD_pieces "pieces") {kb73 : Int32 → Int32 → Int32 → ST → Option (Int32)} (hk73 : ∀ (x1 : Int32) (x2 : Int32) (x3 : Int32), kb73 x1 x2 x3 σ = some res → J (wfm ad cs) X 4 0 0 σ 73 [(0, .ref (ad 18)), (1, .int x1), (2, .int x2), (3, .int x3)] []) (x1 : Int32) (x2 : Int32) (x3 : Int32) (hf : MD_pieces_b73 kb73 x1 x2 x3 σ = some res) : J (wfm ad cs) X 4 0 0 σ 73 [(0, .ref (ad 18)), (1, .int x1), (2, .int x2), (3, .int x3)] [] := by
  unfold MD_pieces_b73 at hf
  refine j_iload_n C 3 rfl rfl d_MD_pieces_73 ?_
  refine j_aload_n C 0 rfl rfl d_MD_pieces_74 ?_
  refine g_MD_deposits C (List.mem_cons_of_mem _ wd_4_34) d_MD_pieces_75 ?_
  refine j_icmp_ge C d_MD_pieces_78 rfl (fun c78 => ?_) (fun c78 => ?_)
  · have hf := o_it c78 hf
    refine j_iload_n C 2 rfl rfl d_MD_pieces_105 ?_
    cases hf
    exact j_iret C Rt (Nat.le_refl _) (Nat.le_refl _) d_MD_pieces_106 ⟨rfl, rfl⟩
  · have hf := o_if c78 hf
    refine j_iload_n C 2 rfl rfl d_MD_pieces_81 ?_
    refine j_aload_n C 0 rfl rfl d_MD_pieces_82 ?_
    refine g_MD_fromOf C (List.mem_cons_of_mem _ wd_4_37) d_MD_pieces_83 ?_
    refine j_iload_n C 3 rfl rfl d_MD_pieces_86 ?_
    obtain ⟨g87, hf⟩ := o_gn hf
    refine la_m_fromOf C g87 d_MD_pieces_87 ?_
    refine j_iload_n C 1 rfl rfl d_MD_pieces_88 ?_
    refine j_icmp_ne C d_MD_pieces_89 rfl (fun c89 => ?_) (fun c89 => ?_)
    · have hf := o_if c89 hf
      refine j_iconst C (v := 0) (by decide) d_MD_pieces_96 ?_
      refine j_sub [0, 1, 3] rfl ?_
      exact w_MD_pieces_c97 C Rt hk73 x1 x3 x2 (0 : Int32) hf
    · have hf := o_it c89 hf
      refine j_iconst C (v := 1) (by decide) d_MD_pieces_92 ?_
      refine j_goto C d_MD_pieces_93 rfl ?_
      refine j_sub [0, 1, 3] rfl ?_
      exact w_MD_pieces_c97 C Rt hk73 x1 x3 x2 (1 : Int32) hf
def MD_pieces_L73 : Nat → Int32 → Int32 → Int32 → ST → Option (Int32)
  | 0, _, _, _, _ => none
  | N + 1, x1, x2, x3, σ => MD_pieces_b73 (fun x1 x2 x3 σ => MD_pieces_L73 N x1 x2 x3 σ) x1 x2 x3 σ
theorem w_MD_pieces_L73 {X : JX} (C : JC X l D (ttf cs) eE b_MD_pieces "TollLedgerModel" 4 (Cond.code y_MD_pieces b_MD_pieces 4 r_MD_pieces :: BIG) 1 21 0 0) {σ : ST} {res : Int32} (Rt : JR X (wfm ad cs) 0 0 (PI res σ) r_MD_pieces "pieces")  (N : Nat) (x1 : Int32) (x2 : Int32) (x3 : Int32) (hf : MD_pieces_L73 N x1 x2 x3 σ = some res) : J (wfm ad cs) X 4 0 0 σ 73 [(0, .ref (ad 18)), (1, .int x1), (2, .int x2), (3, .int x3)] [] := by
  induction N generalizing x1 x2 x3 with
  | zero => exact nomatch hf
  | succ N ih => exact w_MD_pieces_b73 C Rt  (fun x1 x2 x3 h => ih x1 x2 x3 h) x1 x2 x3 hf
def MD_pieces_c63 (kb39 : Int32 → Int32 → Int32 → ST → Option (Int32)) (x1 : Int32) (x3 : Int32) (s0 : Int32) (s1 : Int32) (σ : ST) : Option (Int32) :=
  nmI (s0 + s1) fun x2_64 =>
  kb39 x1 x2_64 (x3 + 1) σ
set_option maxRecDepth 100000 in
set_option maxHeartbeats 4000000 in
theorem w_MD_pieces_c63 {X : JX} (C : JC X l D (ttf cs) eE b_MD_pieces "TollLedgerModel" 4 (Cond.code y_MD_pieces b_MD_pieces 4 r_MD_pieces :: BIG) 1 21 0 0) {σ : ST} {res : Int32} (Rt : JR X (wfm ad cs) 0 0 (PI res σ) r_MD_pieces "pieces") {kb39 : Int32 → Int32 → Int32 → ST → Option (Int32)} (hk39 : ∀ (x1 : Int32) (x2 : Int32) (x3 : Int32), kb39 x1 x2 x3 σ = some res → J (wfm ad cs) X 4 0 0 σ 39 [(0, .ref (ad 18)), (1, .int x1), (2, .int x2), (3, .int x3)] []) (x1 : Int32) (x3 : Int32) (s0 : Int32) (s1 : Int32) (hf : MD_pieces_c63 kb39 x1 x3 s0 s1 σ = some res) : J (wfm ad cs) X 4 0 0 σ 63 [(0, .ref (ad 18)), (1, .int x1), (3, .int x3)] [.int s1, .int s0] := by
  unfold MD_pieces_c63 at hf
  refine j_iadd C d_MD_pieces_63 ?_
  obtain ⟨x2_64, ex2_64, hf⟩ := o_nmI hf
  refine j_topI ex2_64 ?_
  refine j_istore_n C rfl (by decide) (loc' := [(2, .int x2_64), (0, .ref (ad 18)), (1, .int x1), (3, .int x3)]) rfl d_MD_pieces_64 ?_
  refine j_iinc C 3 rfl (v := (x3 + 1)) (inc_p1 _) (by decide) (loc' := [(3, .int (x3 + 1)), (2, .int x2_64), (0, .ref (ad 18)), (1, .int x1)]) rfl d_MD_pieces_65 ?_
  refine j_goto C d_MD_pieces_68 rfl ?_
  refine j_sub [2, 3, 1, 0] rfl ?_
  exact hk39 x1 x2_64 (x3 + 1) hf
def MD_pieces_b39 (kb39 : Int32 → Int32 → Int32 → ST → Option (Int32)) (x1 : Int32) (x2 : Int32) (x3 : Int32) (σ : ST) : Option (Int32) :=
  if (gI σ 21) ≤ x3 then (MD_pieces_L73 FU x1 x2 (0 : Int32) σ)
  else (if x3 < 0 ∨ 12 ≤ x3.toNatClampNeg then none else
  if (gA σ 16 x3.toNatClampNeg) = x1 then (MD_pieces_c63 kb39 x1 x3 x2 (1 : Int32) σ)
  else (MD_pieces_c63 kb39 x1 x3 x2 (0 : Int32) σ))
set_option maxRecDepth 100000 in
set_option maxHeartbeats 4000000 in
theorem w_MD_pieces_b39 {X : JX} (C : JC X l D (ttf cs) eE b_MD_pieces "TollLedgerModel" 4 (Cond.code y_MD_pieces b_MD_pieces 4 r_MD_pieces :: BIG) 1 21 0 0) {σ : ST} {res : Int32} (Rt : JR X (wfm ad cs) 0 0 (PI res σ) r_MD_pieces "pieces") {kb39 : Int32 → Int32 → Int32 → ST → Option (Int32)} (hk39 : ∀ (x1 : Int32) (x2 : Int32) (x3 : Int32), kb39 x1 x2 x3 σ = some res → J (wfm ad cs) X 4 0 0 σ 39 [(0, .ref (ad 18)), (1, .int x1), (2, .int x2), (3, .int x3)] []) (x1 : Int32) (x2 : Int32) (x3 : Int32) (hf : MD_pieces_b39 kb39 x1 x2 x3 σ = some res) : J (wfm ad cs) X 4 0 0 σ 39 [(0, .ref (ad 18)), (1, .int x1), (2, .int x2), (3, .int x3)] [] := by
  unfold MD_pieces_b39 at hf
  refine j_iload_n C 3 rfl rfl d_MD_pieces_39 ?_
  refine j_aload_n C 0 rfl rfl d_MD_pieces_40 ?_
  refine g_MD_offers C (List.mem_cons_of_mem _ wd_4_26) d_MD_pieces_41 ?_
  refine j_icmp_ge C d_MD_pieces_44 rfl (fun c44 => ?_) (fun c44 => ?_)
  · have hf := o_it c44 hf
    refine j_iconst C (v := 0) (by decide) d_MD_pieces_71 ?_
    refine j_istore_n C rfl (by decide) (loc' := [(3, .int (0 : Int32)), (0, .ref (ad 18)), (1, .int x1), (2, .int x2)]) rfl d_MD_pieces_72 ?_
    refine j_sub [1, 2, 3, 0] rfl ?_
    exact w_MD_pieces_L73 C Rt  FU x1 x2 (0 : Int32) hf
  · have hf := o_if c44 hf
    refine j_iload_n C 2 rfl rfl d_MD_pieces_47 ?_
    refine j_aload_n C 0 rfl rfl d_MD_pieces_48 ?_
    refine g_MD_ownerOf C (List.mem_cons_of_mem _ wd_4_29) d_MD_pieces_49 ?_
    refine j_iload_n C 3 rfl rfl d_MD_pieces_52 ?_
    obtain ⟨g53, hf⟩ := o_gn hf
    refine la_m_ownerOf C g53 d_MD_pieces_53 ?_
    refine j_iload_n C 1 rfl rfl d_MD_pieces_54 ?_
    refine j_icmp_ne C d_MD_pieces_55 rfl (fun c55 => ?_) (fun c55 => ?_)
    · have hf := o_if c55 hf
      refine j_iconst C (v := 0) (by decide) d_MD_pieces_62 ?_
      refine j_sub [0, 1, 3] rfl ?_
      exact w_MD_pieces_c63 C Rt hk39 x1 x3 x2 (0 : Int32) hf
    · have hf := o_it c55 hf
      refine j_iconst C (v := 1) (by decide) d_MD_pieces_58 ?_
      refine j_goto C d_MD_pieces_59 rfl ?_
      refine j_sub [0, 1, 3] rfl ?_
      exact w_MD_pieces_c63 C Rt hk39 x1 x3 x2 (1 : Int32) hf
def MD_pieces_L39 : Nat → Int32 → Int32 → Int32 → ST → Option (Int32)
  | 0, _, _, _, _ => none
  | N + 1, x1, x2, x3, σ => MD_pieces_b39 (fun x1 x2 x3 σ => MD_pieces_L39 N x1 x2 x3 σ) x1 x2 x3 σ
theorem w_MD_pieces_L39 {X : JX} (C : JC X l D (ttf cs) eE b_MD_pieces "TollLedgerModel" 4 (Cond.code y_MD_pieces b_MD_pieces 4 r_MD_pieces :: BIG) 1 21 0 0) {σ : ST} {res : Int32} (Rt : JR X (wfm ad cs) 0 0 (PI res σ) r_MD_pieces "pieces")  (N : Nat) (x1 : Int32) (x2 : Int32) (x3 : Int32) (hf : MD_pieces_L39 N x1 x2 x3 σ = some res) : J (wfm ad cs) X 4 0 0 σ 39 [(0, .ref (ad 18)), (1, .int x1), (2, .int x2), (3, .int x3)] [] := by
  induction N generalizing x1 x2 x3 with
  | zero => exact nomatch hf
  | succ N ih => exact w_MD_pieces_b39 C Rt  (fun x1 x2 x3 h => ih x1 x2 x3 h) x1 x2 x3 hf
def MD_pieces_c29 (kb4 : Int32 → Int32 → Int32 → ST → Option (Int32)) (x1 : Int32) (x3 : Int32) (s0 : Int32) (s1 : Int32) (σ : ST) : Option (Int32) :=
  nmI (s0 + s1) fun x2_30 =>
  kb4 x1 x2_30 (x3 + 1) σ
set_option maxRecDepth 100000 in
set_option maxHeartbeats 4000000 in
theorem w_MD_pieces_c29 {X : JX} (C : JC X l D (ttf cs) eE b_MD_pieces "TollLedgerModel" 4 (Cond.code y_MD_pieces b_MD_pieces 4 r_MD_pieces :: BIG) 1 21 0 0) {σ : ST} {res : Int32} (Rt : JR X (wfm ad cs) 0 0 (PI res σ) r_MD_pieces "pieces") {kb4 : Int32 → Int32 → Int32 → ST → Option (Int32)} (hk4 : ∀ (x1 : Int32) (x2 : Int32) (x3 : Int32), kb4 x1 x2 x3 σ = some res → J (wfm ad cs) X 4 0 0 σ 4 [(0, .ref (ad 18)), (1, .int x1), (2, .int x2), (3, .int x3)] []) (x1 : Int32) (x3 : Int32) (s0 : Int32) (s1 : Int32) (hf : MD_pieces_c29 kb4 x1 x3 s0 s1 σ = some res) : J (wfm ad cs) X 4 0 0 σ 29 [(0, .ref (ad 18)), (1, .int x1), (3, .int x3)] [.int s1, .int s0] := by
  unfold MD_pieces_c29 at hf
  refine j_iadd C d_MD_pieces_29 ?_
  obtain ⟨x2_30, ex2_30, hf⟩ := o_nmI hf
  refine j_topI ex2_30 ?_
  refine j_istore_n C rfl (by decide) (loc' := [(2, .int x2_30), (0, .ref (ad 18)), (1, .int x1), (3, .int x3)]) rfl d_MD_pieces_30 ?_
  refine j_iinc C 3 rfl (v := (x3 + 1)) (inc_p1 _) (by decide) (loc' := [(3, .int (x3 + 1)), (2, .int x2_30), (0, .ref (ad 18)), (1, .int x1)]) rfl d_MD_pieces_31 ?_
  refine j_goto C d_MD_pieces_34 rfl ?_
  refine j_sub [2, 3, 1, 0] rfl ?_
  exact hk4 x1 x2_30 (x3 + 1) hf
def MD_pieces_b4 (kb4 : Int32 → Int32 → Int32 → ST → Option (Int32)) (x1 : Int32) (x2 : Int32) (x3 : Int32) (σ : ST) : Option (Int32) :=
  if (12 : Int32) ≤ x3 then (MD_pieces_L39 FU x1 x2 (0 : Int32) σ)
  else (bd1 (MD_owns (((12 : Int32) * x1) + x3) σ) fun r18 =>
  if r18 = 0 then (MD_pieces_c29 kb4 x1 x3 x2 (0 : Int32) σ)
  else (MD_pieces_c29 kb4 x1 x3 x2 (1 : Int32) σ))
set_option maxRecDepth 100000 in
set_option maxHeartbeats 4000000 in
theorem w_MD_pieces_b4 {X : JX} (C : JC X l D (ttf cs) eE b_MD_pieces "TollLedgerModel" 4 (Cond.code y_MD_pieces b_MD_pieces 4 r_MD_pieces :: BIG) 1 21 0 0) {σ : ST} {res : Int32} (Rt : JR X (wfm ad cs) 0 0 (PI res σ) r_MD_pieces "pieces") {kb4 : Int32 → Int32 → Int32 → ST → Option (Int32)} (hk4 : ∀ (x1 : Int32) (x2 : Int32) (x3 : Int32), kb4 x1 x2 x3 σ = some res → J (wfm ad cs) X 4 0 0 σ 4 [(0, .ref (ad 18)), (1, .int x1), (2, .int x2), (3, .int x3)] []) (x1 : Int32) (x2 : Int32) (x3 : Int32) (hf : MD_pieces_b4 kb4 x1 x2 x3 σ = some res) : J (wfm ad cs) X 4 0 0 σ 4 [(0, .ref (ad 18)), (1, .int x1), (2, .int x2), (3, .int x3)] [] := by
  unfold MD_pieces_b4 at hf
  refine j_iload_n C 3 rfl rfl d_MD_pieces_4 ?_
  refine j_bipush C (v := 12) (by decide) d_MD_pieces_5 ?_
  refine j_icmp_ge C d_MD_pieces_7 rfl (fun c7 => ?_) (fun c7 => ?_)
  · have hf := o_it c7 hf
    refine j_iconst C (v := 0) (by decide) d_MD_pieces_37 ?_
    refine j_istore_n C rfl (by decide) (loc' := [(3, .int (0 : Int32)), (0, .ref (ad 18)), (1, .int x1), (2, .int x2)]) rfl d_MD_pieces_38 ?_
    refine j_sub [1, 2, 3, 0] rfl ?_
    exact w_MD_pieces_L39 C Rt  FU x1 x2 (0 : Int32) hf
  · have hf := o_if c7 hf
    refine j_iload_n C 2 rfl rfl d_MD_pieces_10 ?_
    refine j_aload_n C 0 rfl rfl d_MD_pieces_11 ?_
    refine j_bipush C (v := 12) (by decide) d_MD_pieces_12 ?_
    refine j_iload_n C 1 rfl rfl d_MD_pieces_14 ?_
    refine j_imul C d_MD_pieces_15 ?_
    refine j_iload_n C 3 rfl rfl d_MD_pieces_16 ?_
    refine j_iadd C d_MD_pieces_17 ?_
    obtain ⟨r18, h18, hf⟩ := o_b1 hf
    refine j_callV (ci := 10) (Cn := "TollLedgerModel") (T := T_MD) (N := 39) C [.int (((12 : Int32) * x1) + x3)] [.int x2] (m_MD_owns _ _ _ _ _ (((12 : Int32) * x1) + x3) σ h18) (gdV wd_4_176 wd_4_178 wp_21 wd_1_11 wc_MD_owns) hy_MD_owns rfl ⟨18, rfl⟩ rfl rfl (by decide) (by decide) (by decide) (by decide) (Nat.le_of_ble_eq_true rfl) d_MD_pieces_18 (j_kI (r := r18) (σ1 := σ) ?_)
    refine j_if_eq C d_MD_pieces_21 rfl (fun c21 => ?_) (fun c21 => ?_)
    · have hf := o_it c21 hf
      refine j_iconst C (v := 0) (by decide) d_MD_pieces_28 ?_
      refine j_sub [0, 1, 3] rfl ?_
      exact w_MD_pieces_c29 C Rt hk4 x1 x3 x2 (0 : Int32) hf
    · have hf := o_if c21 hf
      refine j_iconst C (v := 1) (by decide) d_MD_pieces_24 ?_
      refine j_goto C d_MD_pieces_25 rfl ?_
      refine j_sub [0, 1, 3] rfl ?_
      exact w_MD_pieces_c29 C Rt hk4 x1 x3 x2 (1 : Int32) hf
def MD_pieces_L4 : Nat → Int32 → Int32 → Int32 → ST → Option (Int32)
  | 0, _, _, _, _ => none
  | N + 1, x1, x2, x3, σ => MD_pieces_b4 (fun x1 x2 x3 σ => MD_pieces_L4 N x1 x2 x3 σ) x1 x2 x3 σ
theorem w_MD_pieces_L4 {X : JX} (C : JC X l D (ttf cs) eE b_MD_pieces "TollLedgerModel" 4 (Cond.code y_MD_pieces b_MD_pieces 4 r_MD_pieces :: BIG) 1 21 0 0) {σ : ST} {res : Int32} (Rt : JR X (wfm ad cs) 0 0 (PI res σ) r_MD_pieces "pieces")  (N : Nat) (x1 : Int32) (x2 : Int32) (x3 : Int32) (hf : MD_pieces_L4 N x1 x2 x3 σ = some res) : J (wfm ad cs) X 4 0 0 σ 4 [(0, .ref (ad 18)), (1, .int x1), (2, .int x2), (3, .int x3)] [] := by
  induction N generalizing x1 x2 x3 with
  | zero => exact nomatch hf
  | succ N ih => exact w_MD_pieces_b4 C Rt  (fun x1 x2 x3 h => ih x1 x2 x3 h) x1 x2 x3 hf
def MD_pieces (x1 : Int32) (σ : ST) : Option (Int32) :=
  MD_pieces_L4 FU x1 (0 : Int32) (0 : Int32) σ
set_option maxRecDepth 100000 in
set_option maxHeartbeats 4000000 in
theorem m_MD_pieces (l : Launch) (D : va_G) (ad : Nat → Nat) (cs : Nat → ClassId) (eE : Nat) (x1 : Int32) (σ : ST) {res : Int32} (hf : MD_pieces x1 σ = some res) : MS l y_MD_pieces (Cond.code y_MD_pieces b_MD_pieces 4 r_MD_pieces :: BIG) 1 21 0 0 (wfm ad cs) D (ttf cs) eE [.ref (ad 18), .int x1] σ (PI res σ) := by
  refine MS.of (cc := b_MD_pieces) (maxL := 4) (ret := r_MD_pieces) (by decide) rfl (Nat.le_of_ble_eq_true rfl) (loc := [(0, .ref (ad 18)), (1, .int x1)]) rfl (fun X C Rt => ?_)
  unfold MD_pieces at hf
  refine j_iconst C (v := 0) (by decide) d_MD_pieces_0 ?_
  refine j_istore_n C rfl (by decide) (loc' := [(2, .int (0 : Int32)), (0, .ref (ad 18)), (1, .int x1)]) rfl d_MD_pieces_1 ?_
  refine j_iconst C (v := 0) (by decide) d_MD_pieces_2 ?_
  refine j_istore_n C rfl (by decide) (loc' := [(3, .int (0 : Int32)), (2, .int (0 : Int32)), (0, .ref (ad 18)), (1, .int x1)]) rfl d_MD_pieces_3 ?_
  refine j_sub [2, 3, 1, 0] rfl ?_
  exact w_MD_pieces_L4 C Rt  FU x1 (0 : Int32) (0 : Int32) hf
theorem d_MD_reserve_0 : decode b_MD_reserve 0 = .ok (.bipush 100, 2) := by decide +kernel
theorem d_MD_reserve_2 : decode b_MD_reserve 2 = .ok (.bipush 20, 2) := by decide +kernel
theorem d_MD_reserve_4 : decode b_MD_reserve 4 = .ok (.aload_n 0, 1) := by decide +kernel
theorem d_MD_reserve_5 : decode b_MD_reserve 5 = .ok (.iload_n 1, 1) := by decide +kernel
theorem d_MD_reserve_6 : decode b_MD_reserve 6 = .ok (.invokevirtual 116, 3) := by decide +kernel
theorem d_MD_reserve_9 : decode b_MD_reserve 9 = .ok (.imul, 1) := by decide +kernel
theorem d_MD_reserve_10 : decode b_MD_reserve 10 = .ok (.iadd, 1) := by decide +kernel
theorem d_MD_reserve_11 : decode b_MD_reserve 11 = .ok (.ireturn, 1) := by decide +kernel
def MD_reserve (x1 : Int32) (σ : ST) : Option (Int32) :=
  bd1 (MD_pieces x1 σ) fun r6 =>
  some ((100 : Int32) + ((20 : Int32) * r6))
set_option maxRecDepth 100000 in
set_option maxHeartbeats 4000000 in
theorem m_MD_reserve (l : Launch) (D : va_G) (ad : Nat → Nat) (cs : Nat → ClassId) (eE : Nat) (x1 : Int32) (σ : ST) {res : Int32} (hf : MD_reserve x1 σ = some res) : MS l y_MD_reserve (Cond.code y_MD_reserve b_MD_reserve 2 r_MD_reserve :: BIG) 2 44 0 0 (wfm ad cs) D (ttf cs) eE [.ref (ad 18), .int x1] σ (PI res σ) := by
  refine MS.of (cc := b_MD_reserve) (maxL := 2) (ret := r_MD_reserve) (by decide) rfl (Nat.le_of_ble_eq_true rfl) (loc := [(0, .ref (ad 18)), (1, .int x1)]) rfl (fun X C Rt => ?_)
  unfold MD_reserve at hf
  refine j_bipush C (v := 100) (by decide) d_MD_reserve_0 ?_
  refine j_bipush C (v := 20) (by decide) d_MD_reserve_2 ?_
  refine j_aload_n C 0 rfl rfl d_MD_reserve_4 ?_
  refine j_iload_n C 1 rfl rfl d_MD_reserve_5 ?_
  obtain ⟨r6, h6, hf⟩ := o_b1 hf
  refine j_callV (ci := 10) (Cn := "TollLedgerModel") (T := T_MD) (N := 39) C [.int x1] [.int (20 : Int32), .int (100 : Int32)] (m_MD_pieces _ _ _ _ _ x1 σ h6) (gdV wd_4_172 wd_4_174 wp_20 wd_1_11 wc_MD_pieces) hy_MD_pieces rfl ⟨18, rfl⟩ rfl rfl (by decide) (by decide) (by decide) (by decide) (Nat.le_of_ble_eq_true rfl) d_MD_reserve_6 (j_kI (r := r6) (σ1 := σ) ?_)
  refine j_imul C d_MD_reserve_9 ?_
  refine j_iadd C d_MD_reserve_10 ?_
  cases hf
  exact j_iret C Rt (Nat.le_refl _) (Nat.le_refl _) d_MD_reserve_11 ⟨rfl, rfl⟩
theorem d_MD_line_0 : decode b_MD_line 0 = .ok (.bipush 12, 2) := by decide +kernel
theorem d_MD_line_2 : decode b_MD_line 2 = .ok (.iload_n 0, 1) := by decide +kernel
theorem d_MD_line_3 : decode b_MD_line 3 = .ok (.imul, 1) := by decide +kernel
theorem d_MD_line_4 : decode b_MD_line 4 = .ok (.iconst 2, 1) := by decide +kernel
theorem d_MD_line_5 : decode b_MD_line 5 = .ok (.iload_n 1, 1) := by decide +kernel
theorem d_MD_line_6 : decode b_MD_line 6 = .ok (.imul, 1) := by decide +kernel
theorem d_MD_line_7 : decode b_MD_line 7 = .ok (.iadd, 1) := by decide +kernel
theorem d_MD_line_8 : decode b_MD_line 8 = .ok (.iload_n 2, 1) := by decide +kernel
theorem d_MD_line_9 : decode b_MD_line 9 = .ok (.iadd, 1) := by decide +kernel
theorem d_MD_line_10 : decode b_MD_line 10 = .ok (.iconst 1, 1) := by decide +kernel
theorem d_MD_line_11 : decode b_MD_line 11 = .ok (.isub, 1) := by decide +kernel
theorem d_MD_line_12 : decode b_MD_line 12 = .ok (.ireturn, 1) := by decide +kernel
def MD_line (x0 : Int32) (x1 : Int32) (x2 : Int32) : Option (Int32) :=
  some (((((12 : Int32) * x0) + ((2 : Int32) * x1)) + x2) - (1 : Int32))
set_option maxRecDepth 100000 in
set_option maxHeartbeats 4000000 in
theorem m_MD_line (l : Launch) (D : va_G) (ad : Nat → Nat) (cs : Nat → ClassId) (eE : Nat) (x0 : Int32) (x1 : Int32) (x2 : Int32) (σ : ST) {res : Int32} (hf : MD_line x0 x1 x2 = some res) : MS l y_MD_line (Cond.code y_MD_line b_MD_line 3 r_MD_line :: BIG) 0 0 0 0 (wfm ad cs) D (ttf cs) eE [.int x0, .int x1, .int x2] σ (PI res σ) := by
  refine MS.of (cc := b_MD_line) (maxL := 3) (ret := r_MD_line) (by decide) rfl (Nat.le_of_ble_eq_true rfl) (loc := [(0, .int x0), (1, .int x1), (2, .int x2)]) rfl (fun X C Rt => ?_)
  unfold MD_line at hf
  refine j_bipush C (v := 12) (by decide) d_MD_line_0 ?_
  refine j_iload_n C 0 rfl rfl d_MD_line_2 ?_
  refine j_imul C d_MD_line_3 ?_
  refine j_iconst C (v := 2) (by decide) d_MD_line_4 ?_
  refine j_iload_n C 1 rfl rfl d_MD_line_5 ?_
  refine j_imul C d_MD_line_6 ?_
  refine j_iadd C d_MD_line_7 ?_
  refine j_iload_n C 2 rfl rfl d_MD_line_8 ?_
  refine j_iadd C d_MD_line_9 ?_
  refine j_iconst C (v := 1) (by decide) d_MD_line_10 ?_
  refine j_isub C d_MD_line_11 ?_
  cases hf
  exact j_iret C Rt (Nat.le_refl _) (Nat.le_refl _) d_MD_line_12 ⟨rfl, rfl⟩
theorem d_MD_holding_0 : decode b_MD_holding 0 = .ok (.iload_n 1, 1) := by decide +kernel
theorem d_MD_holding_1 : decode b_MD_holding 1 = .ok (.invokestatic 95, 3) := by decide +kernel
theorem d_MD_holding_4 : decode b_MD_holding 4 = .ok (.istore_n 2, 1) := by decide +kernel
theorem d_MD_holding_5 : decode b_MD_holding 5 = .ok (.iload_n 1, 1) := by decide +kernel
theorem d_MD_holding_6 : decode b_MD_holding 6 = .ok (.invokestatic 99, 3) := by decide +kernel
theorem d_MD_holding_9 : decode b_MD_holding 9 = .ok (.istore_n 3, 1) := by decide +kernel
theorem d_MD_holding_10 : decode b_MD_holding 10 = .ok (.iload_n 0, 1) := by decide +kernel
theorem d_MD_holding_11 : decode b_MD_holding 11 = .ok (.iload_n 2, 1) := by decide +kernel
theorem d_MD_holding_12 : decode b_MD_holding 12 = .ok (.iload_n 3, 1) := by decide +kernel
theorem d_MD_holding_13 : decode b_MD_holding 13 = .ok (.invokestatic 102, 3) := by decide +kernel
theorem d_MD_holding_16 : decode b_MD_holding 16 = .ok (.ireturn, 1) := by decide +kernel
def MD_holding (x0 : Int32) (x1 : Int32) : Option (Int32) :=
  bd1 (MD_issuerOf x1) fun r1 =>
  bd1 (MD_currencyOf x1) fun r6 =>
  bd1 (MD_line x0 r1 r6) fun r13 =>
  some r13
set_option maxRecDepth 100000 in
set_option maxHeartbeats 4000000 in
theorem m_MD_holding (l : Launch) (D : va_G) (ad : Nat → Nat) (cs : Nat → ClassId) (eE : Nat) (x0 : Int32) (x1 : Int32) (σ : ST) {res : Int32} (hf : MD_holding x0 x1 = some res) : MS l y_MD_holding (Cond.code y_MD_holding b_MD_holding 4 r_MD_holding :: BIG) 1 22 0 0 (wfm ad cs) D (ttf cs) eE [.int x0, .int x1] σ (PI res σ) := by
  refine MS.of (cc := b_MD_holding) (maxL := 4) (ret := r_MD_holding) (by decide) rfl (Nat.le_of_ble_eq_true rfl) (loc := [(0, .int x0), (1, .int x1)]) rfl (fun X C Rt => ?_)
  unfold MD_holding at hf
  refine j_iload_n C 1 rfl rfl d_MD_holding_0 ?_
  obtain ⟨r1, h1, hf⟩ := o_b1 hf
  refine j_callS C [.int x1] [] (m_MD_issuerOf _ _ _ _ _ x1 σ h1) (gdS wd_4_164 wd_4_165 wd_1_11 wc_MD_issuerOf) hy_MD_issuerOf rfl rfl (by decide) (by decide) (by decide) (by decide) (Nat.le_of_ble_eq_true rfl) d_MD_holding_1 (j_kI (r := r1) (σ1 := σ) ?_)
  refine j_istore_n C rfl (by decide) (loc' := [(2, .int r1), (0, .int x0), (1, .int x1)]) rfl d_MD_holding_4 ?_
  refine j_iload_n C 2 rfl rfl d_MD_holding_5 ?_
  obtain ⟨r6, h6, hf⟩ := o_b1 hf
  refine j_callS C [.int x1] [] (m_MD_currencyOf _ _ _ _ _ x1 σ h6) (gdS wd_4_183 wd_4_184 wd_1_11 wc_MD_currencyOf) hy_MD_currencyOf rfl rfl (by decide) (by decide) (by decide) (by decide) (Nat.le_of_ble_eq_true rfl) d_MD_holding_6 (j_kI (r := r6) (σ1 := σ) ?_)
  refine j_istore_n C rfl (by decide) (loc' := [(3, .int r6), (2, .int r1), (0, .int x0), (1, .int x1)]) rfl d_MD_holding_9 ?_
  refine j_iload_n C 2 rfl rfl d_MD_holding_10 ?_
  refine j_iload_n C 1 rfl rfl d_MD_holding_11 ?_
  refine j_iload_n C 0 rfl rfl d_MD_holding_12 ?_
  obtain ⟨r13, h13, hf⟩ := o_b1 hf
  refine j_callS C [.int x0, .int r1, .int r6] [] (m_MD_line _ _ _ _ _ x0 r1 r6 σ h13) (gdS wd_4_186 wd_4_187 wd_1_11 wc_MD_line) hy_MD_line rfl rfl (by decide) (by decide) (by decide) (by decide) (Nat.le_of_ble_eq_true rfl) d_MD_holding_13 (j_kI (r := r13) (σ1 := σ) ?_)
  cases hf
  exact j_iret C Rt (Nat.le_refl _) (Nat.le_refl _) d_MD_holding_16 ⟨rfl, rfl⟩
theorem d_MD_fundsIn_0 : decode b_MD_fundsIn 0 = .ok (.iload_n 2, 1) := by decide +kernel
theorem d_MD_fundsIn_1 : decode b_MD_fundsIn 1 = .ok (.ifCond .le 14, 3) := by decide +kernel
theorem d_MD_fundsIn_4 : decode b_MD_fundsIn 4 = .ok (.iload_n 2, 1) := by decide +kernel
theorem d_MD_fundsIn_5 : decode b_MD_fundsIn 5 = .ok (.invokestatic 95, 3) := by decide +kernel
theorem d_MD_fundsIn_8 : decode b_MD_fundsIn 8 = .ok (.iload_n 1, 1) := by decide +kernel
theorem d_MD_fundsIn_9 : decode b_MD_fundsIn 9 = .ok (.if_icmp .ne 6, 3) := by decide +kernel
theorem d_MD_fundsIn_12 : decode b_MD_fundsIn 12 = .ok (.ldc 119, 2) := by decide +kernel
theorem d_MD_fundsIn_14 : decode b_MD_fundsIn 14 = .ok (.ireturn, 1) := by decide +kernel
theorem d_MD_fundsIn_15 : decode b_MD_fundsIn 15 = .ok (.iload_n 2, 1) := by decide +kernel
theorem d_MD_fundsIn_16 : decode b_MD_fundsIn 16 = .ok (.ifCond .ne 18, 3) := by decide +kernel
theorem d_MD_fundsIn_19 : decode b_MD_fundsIn 19 = .ok (.aload_n 0, 1) := by decide +kernel
theorem d_MD_fundsIn_20 : decode b_MD_fundsIn 20 = .ok (.getfield 13, 3) := by decide +kernel
theorem d_MD_fundsIn_23 : decode b_MD_fundsIn 23 = .ok (.iload_n 1, 1) := by decide +kernel
theorem d_MD_fundsIn_24 : decode b_MD_fundsIn 24 = .ok (.iaload, 1) := by decide +kernel
theorem d_MD_fundsIn_25 : decode b_MD_fundsIn 25 = .ok (.aload_n 0, 1) := by decide +kernel
theorem d_MD_fundsIn_26 : decode b_MD_fundsIn 26 = .ok (.iload_n 1, 1) := by decide +kernel
theorem d_MD_fundsIn_27 : decode b_MD_fundsIn 27 = .ok (.invokevirtual 120, 3) := by decide +kernel
theorem d_MD_fundsIn_30 : decode b_MD_fundsIn 30 = .ok (.isub, 1) := by decide +kernel
theorem d_MD_fundsIn_31 : decode b_MD_fundsIn 31 = .ok (.goto 13, 3) := by decide +kernel
theorem d_MD_fundsIn_34 : decode b_MD_fundsIn 34 = .ok (.aload_n 0, 1) := by decide +kernel
theorem d_MD_fundsIn_35 : decode b_MD_fundsIn 35 = .ok (.getfield 23, 3) := by decide +kernel
theorem d_MD_fundsIn_38 : decode b_MD_fundsIn 38 = .ok (.iload_n 1, 1) := by decide +kernel
theorem d_MD_fundsIn_39 : decode b_MD_fundsIn 39 = .ok (.iload_n 2, 1) := by decide +kernel
theorem d_MD_fundsIn_40 : decode b_MD_fundsIn 40 = .ok (.invokestatic 123, 3) := by decide +kernel
theorem d_MD_fundsIn_43 : decode b_MD_fundsIn 43 = .ok (.iaload, 1) := by decide +kernel
theorem d_MD_fundsIn_44 : decode b_MD_fundsIn 44 = .ok (.istore_n 3, 1) := by decide +kernel
theorem d_MD_fundsIn_45 : decode b_MD_fundsIn 45 = .ok (.iload_n 3, 1) := by decide +kernel
theorem d_MD_fundsIn_46 : decode b_MD_fundsIn 46 = .ok (.ifCond .ge 7, 3) := by decide +kernel
theorem d_MD_fundsIn_49 : decode b_MD_fundsIn 49 = .ok (.iconst 0, 1) := by decide +kernel
theorem d_MD_fundsIn_50 : decode b_MD_fundsIn 50 = .ok (.goto 4, 3) := by decide +kernel
theorem d_MD_fundsIn_53 : decode b_MD_fundsIn 53 = .ok (.iload_n 3, 1) := by decide +kernel
theorem d_MD_fundsIn_54 : decode b_MD_fundsIn 54 = .ok (.ireturn, 1) := by decide +kernel
def MD_fundsIn_c44 (s0 : Int32) (σ : ST) : Option (Int32) :=
  if 0 ≤ s0 then (some s0)
  else (some (0 : Int32))
set_option maxRecDepth 100000 in
set_option maxHeartbeats 4000000 in
theorem w_MD_fundsIn_c44 {X : JX} (C : JC X l D (ttf cs) eE b_MD_fundsIn "TollLedgerModel" 4 (Cond.code y_MD_fundsIn b_MD_fundsIn 4 r_MD_fundsIn :: BIG) 3 65 0 0) {σ : ST} {res : Int32} (Rt : JR X (wfm ad cs) 0 0 (PI res σ) r_MD_fundsIn "fundsIn")  (s0 : Int32) (hf : MD_fundsIn_c44 s0 σ = some res) : J (wfm ad cs) X 4 0 0 σ 44 [] [.int s0] := by
  unfold MD_fundsIn_c44 at hf
  refine j_istore_n C rfl (by decide) (loc' := [(3, .int s0)]) rfl d_MD_fundsIn_44 ?_
  refine j_iload_n C 0 rfl rfl d_MD_fundsIn_45 ?_
  refine j_if_ge C d_MD_fundsIn_46 rfl (fun c46 => ?_) (fun c46 => ?_)
  · have hf := o_it c46 hf
    refine j_iload_n C 0 rfl rfl d_MD_fundsIn_53 ?_
    cases hf
    exact j_iret C Rt (Nat.le_refl _) (Nat.le_refl _) d_MD_fundsIn_54 ⟨rfl, rfl⟩
  · have hf := o_if c46 hf
    refine j_iconst C (v := 0) (by decide) d_MD_fundsIn_49 ?_
    refine j_goto C d_MD_fundsIn_50 rfl ?_
    cases hf
    exact j_iret C Rt (Nat.le_refl _) (Nat.le_refl _) d_MD_fundsIn_54 ⟨rfl, rfl⟩
def MD_fundsIn_c15 (x1 : Int32) (x2 : Int32) (σ : ST) : Option (Int32) :=
  if x2 = 0 then (if x1 < 0 ∨ 6 ≤ x1.toNatClampNeg then none else
  bd1 (MD_reserve x1 σ) fun r27 =>
  MD_fundsIn_c44 ((gA σ 9 x1.toNatClampNeg) - r27) σ)
  else (bd1 (MD_holding x1 x2) fun r40 =>
  if r40 < 0 ∨ 72 ≤ r40.toNatClampNeg then none else
  MD_fundsIn_c44 (gA σ 12 r40.toNatClampNeg) σ)
set_option maxRecDepth 100000 in
set_option maxHeartbeats 4000000 in
theorem w_MD_fundsIn_c15 {X : JX} (C : JC X l D (ttf cs) eE b_MD_fundsIn "TollLedgerModel" 4 (Cond.code y_MD_fundsIn b_MD_fundsIn 4 r_MD_fundsIn :: BIG) 3 65 0 0) {σ : ST} {res : Int32} (Rt : JR X (wfm ad cs) 0 0 (PI res σ) r_MD_fundsIn "fundsIn")  (x1 : Int32) (x2 : Int32) (hf : MD_fundsIn_c15 x1 x2 σ = some res) : J (wfm ad cs) X 4 0 0 σ 15 [(0, .ref (ad 18)), (1, .int x1), (2, .int x2)] [] := by
  unfold MD_fundsIn_c15 at hf
  refine j_iload_n C 2 rfl rfl d_MD_fundsIn_15 ?_
  refine j_if_ne C d_MD_fundsIn_16 rfl (fun c16 => ?_) (fun c16 => ?_)
  · have hf := o_if c16 hf
    refine j_aload_n C 0 rfl rfl d_MD_fundsIn_34 ?_
    refine g_MD_balances C (List.mem_cons_of_mem _ wd_4_23) d_MD_fundsIn_35 ?_
    refine j_iload_n C 1 rfl rfl d_MD_fundsIn_38 ?_
    refine j_iload_n C 2 rfl rfl d_MD_fundsIn_39 ?_
    obtain ⟨r40, h40, hf⟩ := o_b1 hf
    refine j_callS C [.int x1, .int x2] [.ref (ad 23)] (m_MD_holding _ _ _ _ _ x1 x2 σ h40) (gdS wd_4_180 wd_4_181 wd_1_11 wc_MD_holding) hy_MD_holding rfl rfl (by decide) (by decide) (by decide) (by decide) (Nat.le_of_ble_eq_true rfl) d_MD_fundsIn_40 (j_kI (r := r40) (σ1 := σ) ?_)
    obtain ⟨g43, hf⟩ := o_gn hf
    refine la_m_balances C g43 d_MD_fundsIn_43 ?_
    refine j_sub [] rfl ?_
    exact w_MD_fundsIn_c44 C Rt  (gA σ 12 r40.toNatClampNeg) hf
  · have hf := o_it c16 hf
    refine j_aload_n C 0 rfl rfl d_MD_fundsIn_19 ?_
    refine g_MD_coins C (List.mem_cons_of_mem _ wd_4_20) d_MD_fundsIn_20 ?_
    refine j_iload_n C 1 rfl rfl d_MD_fundsIn_23 ?_
    obtain ⟨g24, hf⟩ := o_gn hf
    refine la_m_coins C g24 d_MD_fundsIn_24 ?_
    refine j_aload_n C 0 rfl rfl d_MD_fundsIn_25 ?_
    refine j_iload_n C 1 rfl rfl d_MD_fundsIn_26 ?_
    obtain ⟨r27, h27, hf⟩ := o_b1 hf
    refine j_callV (ci := 10) (Cn := "TollLedgerModel") (T := T_MD) (N := 39) C [.int x1] [.int (gA σ 9 x1.toNatClampNeg)] (m_MD_reserve _ _ _ _ _ x1 σ h27) (gdV wd_4_168 wd_4_170 wp_19 wd_1_11 wc_MD_reserve) hy_MD_reserve rfl ⟨18, rfl⟩ rfl rfl (by decide) (by decide) (by decide) (by decide) (Nat.le_of_ble_eq_true rfl) d_MD_fundsIn_27 (j_kI (r := r27) (σ1 := σ) ?_)
    refine j_isub C d_MD_fundsIn_30 ?_
    refine j_goto C d_MD_fundsIn_31 rfl ?_
    refine j_sub [] rfl ?_
    exact w_MD_fundsIn_c44 C Rt  ((gA σ 9 x1.toNatClampNeg) - r27) hf
def MD_fundsIn (x1 : Int32) (x2 : Int32) (σ : ST) : Option (Int32) :=
  if x2 ≤ 0 then (MD_fundsIn_c15 x1 x2 σ)
  else (bd1 (MD_issuerOf x2) fun r5 =>
  if r5 = x1 then (some (1000000000 : Int32))
  else (MD_fundsIn_c15 x1 x2 σ))
set_option maxRecDepth 100000 in
set_option maxHeartbeats 4000000 in
theorem m_MD_fundsIn (l : Launch) (D : va_G) (ad : Nat → Nat) (cs : Nat → ClassId) (eE : Nat) (x1 : Int32) (x2 : Int32) (σ : ST) {res : Int32} (hf : MD_fundsIn x1 x2 σ = some res) : MS l y_MD_fundsIn (Cond.code y_MD_fundsIn b_MD_fundsIn 4 r_MD_fundsIn :: BIG) 3 65 0 0 (wfm ad cs) D (ttf cs) eE [.ref (ad 18), .int x1, .int x2] σ (PI res σ) := by
  refine MS.of (cc := b_MD_fundsIn) (maxL := 4) (ret := r_MD_fundsIn) (by decide) rfl (Nat.le_of_ble_eq_true rfl) (loc := [(0, .ref (ad 18)), (1, .int x1), (2, .int x2)]) rfl (fun X C Rt => ?_)
  unfold MD_fundsIn at hf
  refine j_iload_n C 2 rfl rfl d_MD_fundsIn_0 ?_
  refine j_if_le C d_MD_fundsIn_1 rfl (fun c1 => ?_) (fun c1 => ?_)
  · have hf := o_it c1 hf
    exact w_MD_fundsIn_c15 C Rt  x1 x2 hf
  · have hf := o_if c1 hf
    refine j_iload_n C 2 rfl rfl d_MD_fundsIn_4 ?_
    obtain ⟨r5, h5, hf⟩ := o_b1 hf
    refine j_callS C [.int x2] [] (m_MD_issuerOf _ _ _ _ _ x2 σ h5) (gdS wd_4_164 wd_4_165 wd_1_11 wc_MD_issuerOf) hy_MD_issuerOf rfl rfl (by decide) (by decide) (by decide) (by decide) (Nat.le_of_ble_eq_true rfl) d_MD_fundsIn_5 (j_kI (r := r5) (σ1 := σ) ?_)
    refine j_iload_n C 1 rfl rfl d_MD_fundsIn_8 ?_
    refine j_icmp_ne C d_MD_fundsIn_9 rfl (fun c9 => ?_) (fun c9 => ?_)
    · have hf := o_if c9 hf
      exact w_MD_fundsIn_c15 C Rt  x1 x2 hf
    · have hf := o_it c9 hf
      refine j_ldc C (v := 1000000000) (List.mem_cons_of_mem _ wd_4_167) d_MD_fundsIn_12 ?_
      cases hf
      exact j_iret C Rt (Nat.le_refl _) (Nat.le_refl _) d_MD_fundsIn_14 ⟨rfl, rfl⟩
theorem d_MD_isAccount_0 : decode b_MD_isAccount 0 = .ok (.iload_n 0, 1) := by decide +kernel
theorem d_MD_isAccount_1 : decode b_MD_isAccount 1 = .ok (.ifCond .lt 12, 3) := by decide +kernel
theorem d_MD_isAccount_4 : decode b_MD_isAccount 4 = .ok (.iload_n 0, 1) := by decide +kernel
theorem d_MD_isAccount_5 : decode b_MD_isAccount 5 = .ok (.iconst 5, 1) := by decide +kernel
theorem d_MD_isAccount_6 : decode b_MD_isAccount 6 = .ok (.if_icmp .gt 7, 3) := by decide +kernel
theorem d_MD_isAccount_9 : decode b_MD_isAccount 9 = .ok (.iconst 1, 1) := by decide +kernel
theorem d_MD_isAccount_10 : decode b_MD_isAccount 10 = .ok (.goto 4, 3) := by decide +kernel
theorem d_MD_isAccount_13 : decode b_MD_isAccount 13 = .ok (.iconst 0, 1) := by decide +kernel
theorem d_MD_isAccount_14 : decode b_MD_isAccount 14 = .ok (.ireturn, 1) := by decide +kernel
def MD_isAccount (x0 : Int32) : Option (Int32) :=
  if x0 < 0 then (some (0 : Int32))
  else (if (5 : Int32) < x0 then (some (0 : Int32))
  else (some (1 : Int32)))
set_option maxRecDepth 100000 in
set_option maxHeartbeats 4000000 in
theorem m_MD_isAccount (l : Launch) (D : va_G) (ad : Nat → Nat) (cs : Nat → ClassId) (eE : Nat) (x0 : Int32) (σ : ST) {res : Int32} (hf : MD_isAccount x0 = some res) : MS l y_MD_isAccount (Cond.code y_MD_isAccount b_MD_isAccount 1 r_MD_isAccount :: BIG) 0 0 0 0 (wfm ad cs) D (ttf cs) eE [.int x0] σ (PI res σ) := by
  refine MS.of (cc := b_MD_isAccount) (maxL := 1) (ret := r_MD_isAccount) (by decide) rfl (Nat.le_of_ble_eq_true rfl) (loc := [(0, .int x0)]) rfl (fun X C Rt => ?_)
  unfold MD_isAccount at hf
  refine j_iload_n C 0 rfl rfl d_MD_isAccount_0 ?_
  refine j_if_lt C d_MD_isAccount_1 rfl (fun c1 => ?_) (fun c1 => ?_)
  · have hf := o_it c1 hf
    refine j_iconst C (v := 0) (by decide) d_MD_isAccount_13 ?_
    cases hf
    exact j_zret C Rt (by decide) (Nat.le_refl _) (Nat.le_refl _) d_MD_isAccount_14 ⟨rfl, rfl⟩
  · have hf := o_if c1 hf
    refine j_iload_n C 0 rfl rfl d_MD_isAccount_4 ?_
    refine j_iconst C (v := 5) (by decide) d_MD_isAccount_5 ?_
    refine j_icmp_gt C d_MD_isAccount_6 rfl (fun c6 => ?_) (fun c6 => ?_)
    · have hf := o_it c6 hf
      refine j_iconst C (v := 0) (by decide) d_MD_isAccount_13 ?_
      cases hf
      exact j_zret C Rt (by decide) (Nat.le_refl _) (Nat.le_refl _) d_MD_isAccount_14 ⟨rfl, rfl⟩
    · have hf := o_if c6 hf
      refine j_iconst C (v := 1) (by decide) d_MD_isAccount_9 ?_
      refine j_goto C d_MD_isAccount_10 rfl ?_
      cases hf
      exact j_zret C Rt (by decide) (Nat.le_refl _) (Nat.le_refl _) d_MD_isAccount_14 ⟨rfl, rfl⟩
theorem d_MD_isAsset_0 : decode b_MD_isAsset 0 = .ok (.iload_n 0, 1) := by decide +kernel
theorem d_MD_isAsset_1 : decode b_MD_isAsset 1 = .ok (.ifCond .lt 13, 3) := by decide +kernel
theorem d_MD_isAsset_4 : decode b_MD_isAsset 4 = .ok (.iload_n 0, 1) := by decide +kernel
theorem d_MD_isAsset_5 : decode b_MD_isAsset 5 = .ok (.bipush 12, 2) := by decide +kernel
theorem d_MD_isAsset_7 : decode b_MD_isAsset 7 = .ok (.if_icmp .gt 7, 3) := by decide +kernel
theorem d_MD_isAsset_10 : decode b_MD_isAsset 10 = .ok (.iconst 1, 1) := by decide +kernel
theorem d_MD_isAsset_11 : decode b_MD_isAsset 11 = .ok (.goto 4, 3) := by decide +kernel
theorem d_MD_isAsset_14 : decode b_MD_isAsset 14 = .ok (.iconst 0, 1) := by decide +kernel
theorem d_MD_isAsset_15 : decode b_MD_isAsset 15 = .ok (.ireturn, 1) := by decide +kernel
def MD_isAsset (x0 : Int32) : Option (Int32) :=
  if x0 < 0 then (some (0 : Int32))
  else (if (12 : Int32) < x0 then (some (0 : Int32))
  else (some (1 : Int32)))
set_option maxRecDepth 100000 in
set_option maxHeartbeats 4000000 in
theorem m_MD_isAsset (l : Launch) (D : va_G) (ad : Nat → Nat) (cs : Nat → ClassId) (eE : Nat) (x0 : Int32) (σ : ST) {res : Int32} (hf : MD_isAsset x0 = some res) : MS l y_MD_isAsset (Cond.code y_MD_isAsset b_MD_isAsset 1 r_MD_isAsset :: BIG) 0 0 0 0 (wfm ad cs) D (ttf cs) eE [.int x0] σ (PI res σ) := by
  refine MS.of (cc := b_MD_isAsset) (maxL := 1) (ret := r_MD_isAsset) (by decide) rfl (Nat.le_of_ble_eq_true rfl) (loc := [(0, .int x0)]) rfl (fun X C Rt => ?_)
  unfold MD_isAsset at hf
  refine j_iload_n C 0 rfl rfl d_MD_isAsset_0 ?_
  refine j_if_lt C d_MD_isAsset_1 rfl (fun c1 => ?_) (fun c1 => ?_)
  · have hf := o_it c1 hf
    refine j_iconst C (v := 0) (by decide) d_MD_isAsset_14 ?_
    cases hf
    exact j_zret C Rt (by decide) (Nat.le_refl _) (Nat.le_refl _) d_MD_isAsset_15 ⟨rfl, rfl⟩
  · have hf := o_if c1 hf
    refine j_iload_n C 0 rfl rfl d_MD_isAsset_4 ?_
    refine j_bipush C (v := 12) (by decide) d_MD_isAsset_5 ?_
    refine j_icmp_gt C d_MD_isAsset_7 rfl (fun c7 => ?_) (fun c7 => ?_)
    · have hf := o_it c7 hf
      refine j_iconst C (v := 0) (by decide) d_MD_isAsset_14 ?_
      cases hf
      exact j_zret C Rt (by decide) (Nat.le_refl _) (Nat.le_refl _) d_MD_isAsset_15 ⟨rfl, rfl⟩
    · have hf := o_if c7 hf
      refine j_iconst C (v := 1) (by decide) d_MD_isAsset_10 ?_
      refine j_goto C d_MD_isAsset_11 rfl ?_
      cases hf
      exact j_zret C Rt (by decide) (Nat.le_refl _) (Nat.le_refl _) d_MD_isAsset_15 ⟨rfl, rfl⟩
end
