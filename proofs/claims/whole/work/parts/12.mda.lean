section
variable {l : Launch} {D : va_G} {ad : Nat → Nat} {cs : Nat → ClassId} {eE : Nat × Nat}
theorem d_MD_isAccount_0 : decode b_MD_isAccount 0 = .ok (.iload_n 0, 1) := by decide +kernel
theorem d_MD_isAccount_1 : decode b_MD_isAccount 1 = .ok (.ifCond .lt 12, 3) := by decide +kernel
theorem d_MD_isAccount_4 : decode b_MD_isAccount 4 = .ok (.iload_n 0, 1) := by decide +kernel
theorem d_MD_isAccount_5 : decode b_MD_isAccount 5 = .ok (.iconst 5, 1) := by decide +kernel
theorem d_MD_isAccount_6 : decode b_MD_isAccount 6 = .ok (.if_icmp .gt 7, 3) := by decide +kernel
theorem d_MD_isAccount_9 : decode b_MD_isAccount 9 = .ok (.iconst 1, 1) := by decide +kernel
theorem d_MD_isAccount_10 : decode b_MD_isAccount 10 = .ok (.goto 4, 3) := by decide +kernel
theorem d_MD_isAccount_13 : decode b_MD_isAccount 13 = .ok (.iconst 0, 1) := by decide +kernel
theorem d_MD_isAccount_14 : decode b_MD_isAccount 14 = .ok (.ireturn, 1) := by decide +kernel
def MD_isAccount (x0 : Int32) : Option (Int32) :=
  if x0 < 0 then (some (0 : Int32))
  else (if (5 : Int32) < x0 then (some (0 : Int32))
  else (some (1 : Int32)))
set_option maxRecDepth 100000 in
set_option maxHeartbeats 4000000 in
theorem m_MD_isAccount (l : Launch) (D : va_G) (ad : Nat → Nat) (cs : Nat → ClassId) (eE : Nat × Nat) (x0 : Int32) (σ : ST) {res : Int32} (hf : MD_isAccount x0 = some res) : MS l y_MD_isAccount (Cond.code y_MD_isAccount b_MD_isAccount 1 r_MD_isAccount :: BIG) 0 0 0 0 (wfm ad cs) D (ttf cs) eE [.int x0] σ (PI res σ) := by
  refine MS.of (cc := b_MD_isAccount) (maxL := 1) (ret := r_MD_isAccount) (by decide) rfl (Nat.le_of_ble_eq_true rfl) (loc := [(0, .int x0)]) rfl (fun X C Rt => ?_)
  unfold MD_isAccount at hf
  refine j_iload_n C 0 rfl rfl d_MD_isAccount_0 ?_
  refine j_if_lt C d_MD_isAccount_1 rfl (fun c1 => ?_) (fun c1 => ?_)
  · have hf := o_it c1 hf
    refine j_iconst C (v := 0) (by decide) d_MD_isAccount_13 ?_
    have hf := Option.some.inj hf
    subst hf
    exact j_zret C Rt (by decide) (Nat.zero_le _) (Nat.zero_le _) d_MD_isAccount_14 ⟨rfl, rfl⟩
  · have hf := o_if c1 hf
    refine j_iload_n C 0 rfl rfl d_MD_isAccount_4 ?_
    refine j_iconst C (v := 5) (by decide) d_MD_isAccount_5 ?_
    refine j_icmp_gt C d_MD_isAccount_6 rfl (fun c6 => ?_) (fun c6 => ?_)
    · have hf := o_it c6 hf
      refine j_iconst C (v := 0) (by decide) d_MD_isAccount_13 ?_
      have hf := Option.some.inj hf
      subst hf
      exact j_zret C Rt (by decide) (Nat.zero_le _) (Nat.zero_le _) d_MD_isAccount_14 ⟨rfl, rfl⟩
    · have hf := o_if c6 hf
      refine j_iconst C (v := 1) (by decide) d_MD_isAccount_9 ?_
      refine j_goto C d_MD_isAccount_10 rfl ?_
      have hf := Option.some.inj hf
      subst hf
      exact j_zret C Rt (by decide) (Nat.zero_le _) (Nat.zero_le _) d_MD_isAccount_14 ⟨rfl, rfl⟩
theorem d_MD_owns_0 : decode b_MD_owns 0 = .ok (.aload_n 0, 1) := by decide +kernel
theorem d_MD_owns_1 : decode b_MD_owns 1 = .ok (.getfield 26, 3) := by decide +kernel
theorem d_MD_owns_4 : decode b_MD_owns 4 = .ok (.iload_n 1, 1) := by decide +kernel
theorem d_MD_owns_5 : decode b_MD_owns 5 = .ok (.iaload, 1) := by decide +kernel
theorem d_MD_owns_6 : decode b_MD_owns 6 = .ok (.ifCond .gt 12, 3) := by decide +kernel
theorem d_MD_owns_9 : decode b_MD_owns 9 = .ok (.aload_n 0, 1) := by decide +kernel
theorem d_MD_owns_10 : decode b_MD_owns 10 = .ok (.getfield 23, 3) := by decide +kernel
theorem d_MD_owns_13 : decode b_MD_owns 13 = .ok (.iload_n 1, 1) := by decide +kernel
theorem d_MD_owns_14 : decode b_MD_owns 14 = .ok (.iaload, 1) := by decide +kernel
theorem d_MD_owns_15 : decode b_MD_owns 15 = .ok (.ifCond .le 7, 3) := by decide +kernel
theorem d_MD_owns_18 : decode b_MD_owns 18 = .ok (.iconst 1, 1) := by decide +kernel
theorem d_MD_owns_19 : decode b_MD_owns 19 = .ok (.goto 4, 3) := by decide +kernel
theorem d_MD_owns_22 : decode b_MD_owns 22 = .ok (.iconst 0, 1) := by decide +kernel
theorem d_MD_owns_23 : decode b_MD_owns 23 = .ok (.ireturn, 1) := by decide +kernel
def MD_owns (x1 : Int32) (σ : ST) : Option (Int32) :=
  if x1 < 0 ∨ 72 ≤ x1.toNatClampNeg then none else
  if 0 < (gA σ 13 x1.toNatClampNeg) then (some (1 : Int32))
  else (if (gA σ 12 x1.toNatClampNeg) ≤ 0 then (some (0 : Int32))
  else (some (1 : Int32)))
set_option maxRecDepth 100000 in
set_option maxHeartbeats 4000000 in
theorem m_MD_owns (l : Launch) (D : va_G) (ad : Nat → Nat) (cs : Nat → ClassId) (eE : Nat × Nat) (x1 : Int32) (σ : ST) {res : Int32} (hf : MD_owns x1 σ = some res) : MS l y_MD_owns (Cond.code y_MD_owns b_MD_owns 2 r_MD_owns :: BIG) 0 0 0 0 (wfm ad cs) D (ttf cs) eE [.ref (ad 18), .int x1] σ (PI res σ) := by
  refine MS.of (cc := b_MD_owns) (maxL := 2) (ret := r_MD_owns) (by decide) rfl (Nat.le_of_ble_eq_true rfl) (loc := [(0, .ref (ad 18)), (1, .int x1)]) rfl (fun X C Rt => ?_)
  unfold MD_owns at hf
  refine j_aload_n C 0 rfl rfl d_MD_owns_0 ?_
  refine g_MD_limits C (List.mem_cons_of_mem _ wd_4_24) d_MD_owns_1 ?_
  refine j_iload_n C 1 rfl rfl d_MD_owns_4 ?_
  obtain ⟨g5, hf⟩ := o_gn hf
  refine la_m_limits C g5 d_MD_owns_5 ?_
  refine j_if_gt C d_MD_owns_6 rfl (fun c6 => ?_) (fun c6 => ?_)
  · have hf := o_it c6 hf
    refine j_iconst C (v := 1) (by decide) d_MD_owns_18 ?_
    refine j_goto C d_MD_owns_19 rfl ?_
    have hf := Option.some.inj hf
    subst hf
    exact j_zret C Rt (by decide) (Nat.zero_le _) (Nat.zero_le _) d_MD_owns_23 ⟨rfl, rfl⟩
  · have hf := o_if c6 hf
    refine j_aload_n C 0 rfl rfl d_MD_owns_9 ?_
    refine g_MD_balances C (List.mem_cons_of_mem _ wd_4_23) d_MD_owns_10 ?_
    refine j_iload_n C 1 rfl rfl d_MD_owns_13 ?_
    refine la_m_balances C g5 d_MD_owns_14 ?_
    refine j_if_le C d_MD_owns_15 rfl (fun c15 => ?_) (fun c15 => ?_)
    · have hf := o_it c15 hf
      refine j_iconst C (v := 0) (by decide) d_MD_owns_22 ?_
      have hf := Option.some.inj hf
      subst hf
      exact j_zret C Rt (by decide) (Nat.zero_le _) (Nat.zero_le _) d_MD_owns_23 ⟨rfl, rfl⟩
    · have hf := o_if c15 hf
      refine j_iconst C (v := 1) (by decide) d_MD_owns_18 ?_
      refine j_goto C d_MD_owns_19 rfl ?_
      have hf := Option.some.inj hf
      subst hf
      exact j_zret C Rt (by decide) (Nat.zero_le _) (Nat.zero_le _) d_MD_owns_23 ⟨rfl, rfl⟩
theorem d_MD_pieces_0 : decode b_MD_pieces 0 = .ok (.iconst 0, 1) := by decide +kernel
theorem d_MD_pieces_1 : decode b_MD_pieces 1 = .ok (.istore_n 2, 1) := by decide +kernel
theorem d_MD_pieces_2 : decode b_MD_pieces 2 = .ok (.iconst 0, 1) := by decide +kernel
theorem d_MD_pieces_3 : decode b_MD_pieces 3 = .ok (.istore_n 3, 1) := by decide +kernel
theorem d_MD_pieces_4 : decode b_MD_pieces 4 = .ok (.iload_n 3, 1) := by decide +kernel
theorem d_MD_pieces_5 : decode b_MD_pieces 5 = .ok (.bipush 12, 2) := by decide +kernel
theorem d_MD_pieces_7 : decode b_MD_pieces 7 = .ok (.if_icmp .ge 30, 3) := by decide +kernel
theorem d_MD_pieces_10 : decode b_MD_pieces 10 = .ok (.iload_n 2, 1) := by decide +kernel
theorem d_MD_pieces_11 : decode b_MD_pieces 11 = .ok (.aload_n 0, 1) := by decide +kernel
theorem d_MD_pieces_12 : decode b_MD_pieces 12 = .ok (.bipush 12, 2) := by decide +kernel
theorem d_MD_pieces_14 : decode b_MD_pieces 14 = .ok (.iload_n 1, 1) := by decide +kernel
theorem d_MD_pieces_15 : decode b_MD_pieces 15 = .ok (.imul, 1) := by decide +kernel
theorem d_MD_pieces_16 : decode b_MD_pieces 16 = .ok (.iload_n 3, 1) := by decide +kernel
theorem d_MD_pieces_17 : decode b_MD_pieces 17 = .ok (.iadd, 1) := by decide +kernel
theorem d_MD_pieces_18 : decode b_MD_pieces 18 = .ok (.invokevirtual 106, 3) := by decide +kernel
theorem d_MD_pieces_21 : decode b_MD_pieces 21 = .ok (.ifCond .eq 7, 3) := by decide +kernel
theorem d_MD_pieces_24 : decode b_MD_pieces 24 = .ok (.iconst 1, 1) := by decide +kernel
theorem d_MD_pieces_25 : decode b_MD_pieces 25 = .ok (.goto 4, 3) := by decide +kernel
theorem d_MD_pieces_28 : decode b_MD_pieces 28 = .ok (.iconst 0, 1) := by decide +kernel
theorem d_MD_pieces_29 : decode b_MD_pieces 29 = .ok (.iadd, 1) := by decide +kernel
theorem d_MD_pieces_30 : decode b_MD_pieces 30 = .ok (.istore_n 2, 1) := by decide +kernel
theorem d_MD_pieces_31 : decode b_MD_pieces 31 = .ok (.iinc 3 1, 3) := by decide +kernel
theorem d_MD_pieces_34 : decode b_MD_pieces 34 = .ok (.goto (-30), 3) := by decide +kernel
theorem d_MD_pieces_37 : decode b_MD_pieces 37 = .ok (.iconst 0, 1) := by decide +kernel
theorem d_MD_pieces_38 : decode b_MD_pieces 38 = .ok (.istore_n 3, 1) := by decide +kernel
theorem d_MD_pieces_39 : decode b_MD_pieces 39 = .ok (.iload_n 3, 1) := by decide +kernel
theorem d_MD_pieces_40 : decode b_MD_pieces 40 = .ok (.aload_n 0, 1) := by decide +kernel
theorem d_MD_pieces_41 : decode b_MD_pieces 41 = .ok (.getfield 110, 3) := by decide +kernel
theorem d_MD_pieces_44 : decode b_MD_pieces 44 = .ok (.if_icmp .ge 27, 3) := by decide +kernel
theorem d_MD_pieces_47 : decode b_MD_pieces 47 = .ok (.iload_n 2, 1) := by decide +kernel
theorem d_MD_pieces_48 : decode b_MD_pieces 48 = .ok (.aload_n 0, 1) := by decide +kernel
theorem d_MD_pieces_49 : decode b_MD_pieces 49 = .ok (.getfield 35, 3) := by decide +kernel
theorem d_MD_pieces_52 : decode b_MD_pieces 52 = .ok (.iload_n 3, 1) := by decide +kernel
theorem d_MD_pieces_53 : decode b_MD_pieces 53 = .ok (.iaload, 1) := by decide +kernel
theorem d_MD_pieces_54 : decode b_MD_pieces 54 = .ok (.iload_n 1, 1) := by decide +kernel
theorem d_MD_pieces_55 : decode b_MD_pieces 55 = .ok (.if_icmp .ne 7, 3) := by decide +kernel
theorem d_MD_pieces_58 : decode b_MD_pieces 58 = .ok (.iconst 1, 1) := by decide +kernel
theorem d_MD_pieces_59 : decode b_MD_pieces 59 = .ok (.goto 4, 3) := by decide +kernel
theorem d_MD_pieces_62 : decode b_MD_pieces 62 = .ok (.iconst 0, 1) := by decide +kernel
theorem d_MD_pieces_63 : decode b_MD_pieces 63 = .ok (.iadd, 1) := by decide +kernel
theorem d_MD_pieces_64 : decode b_MD_pieces 64 = .ok (.istore_n 2, 1) := by decide +kernel
theorem d_MD_pieces_65 : decode b_MD_pieces 65 = .ok (.iinc 3 1, 3) := by decide +kernel
theorem d_MD_pieces_68 : decode b_MD_pieces 68 = .ok (.goto (-29), 3) := by decide +kernel
theorem d_MD_pieces_71 : decode b_MD_pieces 71 = .ok (.iconst 0, 1) := by decide +kernel
theorem d_MD_pieces_72 : decode b_MD_pieces 72 = .ok (.istore_n 3, 1) := by decide +kernel
theorem d_MD_pieces_73 : decode b_MD_pieces 73 = .ok (.iload_n 3, 1) := by decide +kernel
theorem d_MD_pieces_74 : decode b_MD_pieces 74 = .ok (.aload_n 0, 1) := by decide +kernel
theorem d_MD_pieces_75 : decode b_MD_pieces 75 = .ok (.getfield 113, 3) := by decide +kernel
theorem d_MD_pieces_78 : decode b_MD_pieces 78 = .ok (.if_icmp .ge 27, 3) := by decide +kernel
theorem d_MD_pieces_81 : decode b_MD_pieces 81 = .ok (.iload_n 2, 1) := by decide +kernel
theorem d_MD_pieces_82 : decode b_MD_pieces 82 = .ok (.aload_n 0, 1) := by decide +kernel
theorem d_MD_pieces_83 : decode b_MD_pieces 83 = .ok (.getfield 53, 3) := by decide +kernel
theorem d_MD_pieces_86 : decode b_MD_pieces 86 = .ok (.iload_n 3, 1) := by decide +kernel
theorem d_MD_pieces_87 : decode b_MD_pieces 87 = .ok (.iaload, 1) := by decide +kernel
theorem d_MD_pieces_88 : decode b_MD_pieces 88 = .ok (.iload_n 1, 1) := by decide +kernel
theorem d_MD_pieces_89 : decode b_MD_pieces 89 = .ok (.if_icmp .ne 7, 3) := by decide +kernel
theorem d_MD_pieces_92 : decode b_MD_pieces 92 = .ok (.iconst 1, 1) := by decide +kernel
theorem d_MD_pieces_93 : decode b_MD_pieces 93 = .ok (.goto 4, 3) := by decide +kernel
theorem d_MD_pieces_96 : decode b_MD_pieces 96 = .ok (.iconst 0, 1) := by decide +kernel
theorem d_MD_pieces_97 : decode b_MD_pieces 97 = .ok (.iadd, 1) := by decide +kernel
theorem d_MD_pieces_98 : decode b_MD_pieces 98 = .ok (.istore_n 2, 1) := by decide +kernel
theorem d_MD_pieces_99 : decode b_MD_pieces 99 = .ok (.iinc 3 1, 3) := by decide +kernel
theorem d_MD_pieces_102 : decode b_MD_pieces 102 = .ok (.goto (-29), 3) := by decide +kernel
theorem d_MD_pieces_105 : decode b_MD_pieces 105 = .ok (.iload_n 2, 1) := by decide +kernel
theorem d_MD_pieces_106 : decode b_MD_pieces 106 = .ok (.ireturn, 1) := by decide +kernel
def MD_pieces_c97 (kb73 : Int32 → Int32 → Int32 → ST → Option (Int32)) (x1 : Int32) (x3 : Int32) (s0 : Int32) (s1 : Int32) (σ : ST) : Option (Int32) :=
  nmI (s0 + s1) fun x2_98 =>
  kb73 x1 x2_98 (x3 + 1) σ
set_option maxRecDepth 100000 in
set_option maxHeartbeats 4000000 in
theorem w_MD_pieces_c97 {X : JX} (C : JC X l D (ttf cs) eE b_MD_pieces "TollLedgerModel" 4 (Cond.code y_MD_pieces b_MD_pieces 4 r_MD_pieces :: BIG) 1 21 0 0) {σ : ST} {res : Int32} (Rt : JR X (wfm ad cs) 0 0 (PI res σ) r_MD_pieces "pieces") {kb73 : Int32 → Int32 → Int32 → ST → Option (Int32)} (hk73 : ∀ (x1 : Int32) (x2 : Int32) (x3 : Int32), kb73 x1 x2 x3 σ = some res → J (wfm ad cs) X 4 0 0 σ 73 [(0, .ref (ad 18)), (1, .int x1), (2, .int x2), (3, .int x3)] []) (x1 : Int32) (x3 : Int32) (s0 : Int32) (s1 : Int32) (hf : MD_pieces_c97 kb73 x1 x3 s0 s1 σ = some res) : J (wfm ad cs) X 4 0 0 σ 97 [(0, .ref (ad 18)), (1, .int x1), (3, .int x3)] [.int s1, .int s0] := by
  unfold MD_pieces_c97 at hf
  refine j_iadd C d_MD_pieces_97 ?_
  obtain ⟨x2_98, ex2_98, hf⟩ := o_nmI hf
  refine j_topI ex2_98 ?_
  refine j_istore_n C rfl (by decide) (loc' := [(2, .int x2_98), (0, .ref (ad 18)), (1, .int x1), (3, .int x3)]) rfl d_MD_pieces_98 ?_
  refine j_iinc C 3 rfl (v := (x3 + 1)) (inc_p1 _) (by decide) (loc' := [(3, .int (x3 + 1)), (2, .int x2_98), (0, .ref (ad 18)), (1, .int x1)]) rfl d_MD_pieces_99 ?_
  refine j_goto C d_MD_pieces_102 rfl ?_
  refine j_sub [2, 3, 1, 0] rfl ?_
  exact hk73 x1 x2_98 (x3 + 1) hf
def MD_pieces_b73 (kb73 : Int32 → Int32 → Int32 → ST → Option (Int32)) (x1 : Int32) (x2 : Int32) (x3 : Int32) (σ : ST) : Option (Int32) :=
  if (gI σ 23) ≤ x3 then (some x2)
  else (if x3 < 0 ∨ 6 ≤ x3.toNatClampNeg then none else
  if (gA σ 22 x3.toNatClampNeg) = x1 then (MD_pieces_c97 kb73 x1 x3 x2 (1 : Int32) σ)
  else (MD_pieces_c97 kb73 x1 x3 x2 (0 : Int32) σ))
set_option maxRecDepth 100000 in
set_option maxHeartbeats 4000000 in
theorem w_MD_pieces_b73 {X : JX} (C : JC X l D (ttf cs) eE b_MD_pieces "TollLedgerModel" 4 (Cond.code y_MD_pieces b_MD_pieces 4 r_MD_pieces :: BIG) 1 21 0 0) {σ : ST} {res : Int32} (Rt : JR X (wfm ad cs) 0 0 (PI res σ) r_MD_pieces "pieces") {kb73 : Int32 → Int32 → Int32 → ST → Option (Int32)} (hk73 : ∀ (x1 : Int32) (x2 : Int32) (x3 : Int32), kb73 x1 x2 x3 σ = some res → J (wfm ad cs) X 4 0 0 σ 73 [(0, .ref (ad 18)), (1, .int x1), (2, .int x2), (3, .int x3)] []) (x1 : Int32) (x2 : Int32) (x3 : Int32) (hf : MD_pieces_b73 kb73 x1 x2 x3 σ = some res) : J (wfm ad cs) X 4 0 0 σ 73 [(0, .ref (ad 18)), (1, .int x1), (2, .int x2), (3, .int x3)] [] := by
  unfold MD_pieces_b73 at hf
  refine j_iload_n C 3 rfl rfl d_MD_pieces_73 ?_
  refine j_aload_n C 0 rfl rfl d_MD_pieces_74 ?_
  refine g_MD_deposits C (List.mem_cons_of_mem _ wd_4_34) d_MD_pieces_75 ?_
  refine j_icmp_ge C d_MD_pieces_78 rfl (fun c78 => ?_) (fun c78 => ?_)
  · have hf := o_it c78 hf
    refine j_iload_n C 2 rfl rfl d_MD_pieces_105 ?_
    have hf := Option.some.inj hf
    subst hf
    exact j_iret C Rt (Nat.zero_le _) (Nat.zero_le _) d_MD_pieces_106 ⟨rfl, rfl⟩
  · have hf := o_if c78 hf
    refine j_iload_n C 2 rfl rfl d_MD_pieces_81 ?_
    refine j_aload_n C 0 rfl rfl d_MD_pieces_82 ?_
    refine g_MD_fromOf C (List.mem_cons_of_mem _ wd_4_37) d_MD_pieces_83 ?_
    refine j_iload_n C 3 rfl rfl d_MD_pieces_86 ?_
    obtain ⟨g87, hf⟩ := o_gn hf
    refine la_m_fromOf C g87 d_MD_pieces_87 ?_
    refine j_iload_n C 1 rfl rfl d_MD_pieces_88 ?_
    refine j_icmp_ne C d_MD_pieces_89 rfl (fun c89 => ?_) (fun c89 => ?_)
    · have hf := o_if c89 hf
      refine j_iconst C (v := 0) (by decide) d_MD_pieces_96 ?_
      refine j_sub [0, 1, 3] rfl ?_
      exact w_MD_pieces_c97 C Rt hk73 x1 x3 x2 (0 : Int32) hf
    · have hf := o_it c89 hf
      refine j_iconst C (v := 1) (by decide) d_MD_pieces_92 ?_
      refine j_goto C d_MD_pieces_93 rfl ?_
      refine j_sub [0, 1, 3] rfl ?_
      exact w_MD_pieces_c97 C Rt hk73 x1 x3 x2 (1 : Int32) hf
def MD_pieces_L73 : Nat → Int32 → Int32 → Int32 → ST → Option (Int32)
  | 0, _, _, _, _ => none
  | N + 1, x1, x2, x3, σ => MD_pieces_b73 (fun x1 x2 x3 σ => MD_pieces_L73 N x1 x2 x3 σ) x1 x2 x3 σ
theorem w_MD_pieces_L73 {X : JX} (C : JC X l D (ttf cs) eE b_MD_pieces "TollLedgerModel" 4 (Cond.code y_MD_pieces b_MD_pieces 4 r_MD_pieces :: BIG) 1 21 0 0) {σ : ST} {res : Int32} (Rt : JR X (wfm ad cs) 0 0 (PI res σ) r_MD_pieces "pieces")  (N : Nat) (x1 : Int32) (x2 : Int32) (x3 : Int32) (hf : MD_pieces_L73 N x1 x2 x3 σ = some res) : J (wfm ad cs) X 4 0 0 σ 73 [(0, .ref (ad 18)), (1, .int x1), (2, .int x2), (3, .int x3)] [] := by
  induction N generalizing x1 x2 x3 with
  | zero => exact nomatch hf
  | succ N ih => exact w_MD_pieces_b73 C Rt  (fun x1 x2 x3 h => ih x1 x2 x3 h) x1 x2 x3 hf
def MD_pieces_c63 (kb39 : Int32 → Int32 → Int32 → ST → Option (Int32)) (x1 : Int32) (x3 : Int32) (s0 : Int32) (s1 : Int32) (σ : ST) : Option (Int32) :=
  nmI (s0 + s1) fun x2_64 =>
  kb39 x1 x2_64 (x3 + 1) σ
set_option maxRecDepth 100000 in
set_option maxHeartbeats 4000000 in
theorem w_MD_pieces_c63 {X : JX} (C : JC X l D (ttf cs) eE b_MD_pieces "TollLedgerModel" 4 (Cond.code y_MD_pieces b_MD_pieces 4 r_MD_pieces :: BIG) 1 21 0 0) {σ : ST} {res : Int32} (Rt : JR X (wfm ad cs) 0 0 (PI res σ) r_MD_pieces "pieces") {kb39 : Int32 → Int32 → Int32 → ST → Option (Int32)} (hk39 : ∀ (x1 : Int32) (x2 : Int32) (x3 : Int32), kb39 x1 x2 x3 σ = some res → J (wfm ad cs) X 4 0 0 σ 39 [(0, .ref (ad 18)), (1, .int x1), (2, .int x2), (3, .int x3)] []) (x1 : Int32) (x3 : Int32) (s0 : Int32) (s1 : Int32) (hf : MD_pieces_c63 kb39 x1 x3 s0 s1 σ = some res) : J (wfm ad cs) X 4 0 0 σ 63 [(0, .ref (ad 18)), (1, .int x1), (3, .int x3)] [.int s1, .int s0] := by
  unfold MD_pieces_c63 at hf
  refine j_iadd C d_MD_pieces_63 ?_
  obtain ⟨x2_64, ex2_64, hf⟩ := o_nmI hf
  refine j_topI ex2_64 ?_
  refine j_istore_n C rfl (by decide) (loc' := [(2, .int x2_64), (0, .ref (ad 18)), (1, .int x1), (3, .int x3)]) rfl d_MD_pieces_64 ?_
  refine j_iinc C 3 rfl (v := (x3 + 1)) (inc_p1 _) (by decide) (loc' := [(3, .int (x3 + 1)), (2, .int x2_64), (0, .ref (ad 18)), (1, .int x1)]) rfl d_MD_pieces_65 ?_
  refine j_goto C d_MD_pieces_68 rfl ?_
  refine j_sub [2, 3, 1, 0] rfl ?_
  exact hk39 x1 x2_64 (x3 + 1) hf
def MD_pieces_b39 (kb39 : Int32 → Int32 → Int32 → ST → Option (Int32)) (x1 : Int32) (x2 : Int32) (x3 : Int32) (σ : ST) : Option (Int32) :=
  if (gI σ 21) ≤ x3 then (MD_pieces_L73 FU x1 x2 (0 : Int32) σ)
  else (if x3 < 0 ∨ 12 ≤ x3.toNatClampNeg then none else
  if (gA σ 16 x3.toNatClampNeg) = x1 then (MD_pieces_c63 kb39 x1 x3 x2 (1 : Int32) σ)
  else (MD_pieces_c63 kb39 x1 x3 x2 (0 : Int32) σ))
set_option maxRecDepth 100000 in
set_option maxHeartbeats 4000000 in
theorem w_MD_pieces_b39 {X : JX} (C : JC X l D (ttf cs) eE b_MD_pieces "TollLedgerModel" 4 (Cond.code y_MD_pieces b_MD_pieces 4 r_MD_pieces :: BIG) 1 21 0 0) {σ : ST} {res : Int32} (Rt : JR X (wfm ad cs) 0 0 (PI res σ) r_MD_pieces "pieces") {kb39 : Int32 → Int32 → Int32 → ST → Option (Int32)} (hk39 : ∀ (x1 : Int32) (x2 : Int32) (x3 : Int32), kb39 x1 x2 x3 σ = some res → J (wfm ad cs) X 4 0 0 σ 39 [(0, .ref (ad 18)), (1, .int x1), (2, .int x2), (3, .int x3)] []) (x1 : Int32) (x2 : Int32) (x3 : Int32) (hf : MD_pieces_b39 kb39 x1 x2 x3 σ = some res) : J (wfm ad cs) X 4 0 0 σ 39 [(0, .ref (ad 18)), (1, .int x1), (2, .int x2), (3, .int x3)] [] := by
  unfold MD_pieces_b39 at hf
  refine j_iload_n C 3 rfl rfl d_MD_pieces_39 ?_
  refine j_aload_n C 0 rfl rfl d_MD_pieces_40 ?_
  refine g_MD_offers C (List.mem_cons_of_mem _ wd_4_26) d_MD_pieces_41 ?_
  refine j_icmp_ge C d_MD_pieces_44 rfl (fun c44 => ?_) (fun c44 => ?_)
  · have hf := o_it c44 hf
    refine j_iconst C (v := 0) (by decide) d_MD_pieces_71 ?_
    refine j_istore_n C rfl (by decide) (loc' := [(3, .int (0 : Int32)), (0, .ref (ad 18)), (1, .int x1), (2, .int x2)]) rfl d_MD_pieces_72 ?_
    refine j_sub [1, 2, 3, 0] rfl ?_
    exact w_MD_pieces_L73 C Rt  FU x1 x2 (0 : Int32) hf
  · have hf := o_if c44 hf
    refine j_iload_n C 2 rfl rfl d_MD_pieces_47 ?_
    refine j_aload_n C 0 rfl rfl d_MD_pieces_48 ?_
    refine g_MD_ownerOf C (List.mem_cons_of_mem _ wd_4_29) d_MD_pieces_49 ?_
    refine j_iload_n C 3 rfl rfl d_MD_pieces_52 ?_
    obtain ⟨g53, hf⟩ := o_gn hf
    refine la_m_ownerOf C g53 d_MD_pieces_53 ?_
    refine j_iload_n C 1 rfl rfl d_MD_pieces_54 ?_
    refine j_icmp_ne C d_MD_pieces_55 rfl (fun c55 => ?_) (fun c55 => ?_)
    · have hf := o_if c55 hf
      refine j_iconst C (v := 0) (by decide) d_MD_pieces_62 ?_
      refine j_sub [0, 1, 3] rfl ?_
      exact w_MD_pieces_c63 C Rt hk39 x1 x3 x2 (0 : Int32) hf
    · have hf := o_it c55 hf
      refine j_iconst C (v := 1) (by decide) d_MD_pieces_58 ?_
      refine j_goto C d_MD_pieces_59 rfl ?_
      refine j_sub [0, 1, 3] rfl ?_
      exact w_MD_pieces_c63 C Rt hk39 x1 x3 x2 (1 : Int32) hf
def MD_pieces_L39 : Nat → Int32 → Int32 → Int32 → ST → Option (Int32)
  | 0, _, _, _, _ => none
  | N + 1, x1, x2, x3, σ => MD_pieces_b39 (fun x1 x2 x3 σ => MD_pieces_L39 N x1 x2 x3 σ) x1 x2 x3 σ
theorem w_MD_pieces_L39 {X : JX} (C : JC X l D (ttf cs) eE b_MD_pieces "TollLedgerModel" 4 (Cond.code y_MD_pieces b_MD_pieces 4 r_MD_pieces :: BIG) 1 21 0 0) {σ : ST} {res : Int32} (Rt : JR X (wfm ad cs) 0 0 (PI res σ) r_MD_pieces "pieces")  (N : Nat) (x1 : Int32) (x2 : Int32) (x3 : Int32) (hf : MD_pieces_L39 N x1 x2 x3 σ = some res) : J (wfm ad cs) X 4 0 0 σ 39 [(0, .ref (ad 18)), (1, .int x1), (2, .int x2), (3, .int x3)] [] := by
  induction N generalizing x1 x2 x3 with
  | zero => exact nomatch hf
  | succ N ih => exact w_MD_pieces_b39 C Rt  (fun x1 x2 x3 h => ih x1 x2 x3 h) x1 x2 x3 hf
def MD_pieces_c29 (kb4 : Int32 → Int32 → Int32 → ST → Option (Int32)) (x1 : Int32) (x3 : Int32) (s0 : Int32) (s1 : Int32) (σ : ST) : Option (Int32) :=
  nmI (s0 + s1) fun x2_30 =>
  kb4 x1 x2_30 (x3 + 1) σ
set_option maxRecDepth 100000 in
set_option maxHeartbeats 4000000 in
theorem w_MD_pieces_c29 {X : JX} (C : JC X l D (ttf cs) eE b_MD_pieces "TollLedgerModel" 4 (Cond.code y_MD_pieces b_MD_pieces 4 r_MD_pieces :: BIG) 1 21 0 0) {σ : ST} {res : Int32} (Rt : JR X (wfm ad cs) 0 0 (PI res σ) r_MD_pieces "pieces") {kb4 : Int32 → Int32 → Int32 → ST → Option (Int32)} (hk4 : ∀ (x1 : Int32) (x2 : Int32) (x3 : Int32), kb4 x1 x2 x3 σ = some res → J (wfm ad cs) X 4 0 0 σ 4 [(0, .ref (ad 18)), (1, .int x1), (2, .int x2), (3, .int x3)] []) (x1 : Int32) (x3 : Int32) (s0 : Int32) (s1 : Int32) (hf : MD_pieces_c29 kb4 x1 x3 s0 s1 σ = some res) : J (wfm ad cs) X 4 0 0 σ 29 [(0, .ref (ad 18)), (1, .int x1), (3, .int x3)] [.int s1, .int s0] := by
  unfold MD_pieces_c29 at hf
  refine j_iadd C d_MD_pieces_29 ?_
  obtain ⟨x2_30, ex2_30, hf⟩ := o_nmI hf
  refine j_topI ex2_30 ?_
  refine j_istore_n C rfl (by decide) (loc' := [(2, .int x2_30), (0, .ref (ad 18)), (1, .int x1), (3, .int x3)]) rfl d_MD_pieces_30 ?_
  refine j_iinc C 3 rfl (v := (x3 + 1)) (inc_p1 _) (by decide) (loc' := [(3, .int (x3 + 1)), (2, .int x2_30), (0, .ref (ad 18)), (1, .int x1)]) rfl d_MD_pieces_31 ?_
  refine j_goto C d_MD_pieces_34 rfl ?_
  refine j_sub [2, 3, 1, 0] rfl ?_
  exact hk4 x1 x2_30 (x3 + 1) hf
def MD_pieces_b4 (kb4 : Int32 → Int32 → Int32 → ST → Option (Int32)) (x1 : Int32) (x2 : Int32) (x3 : Int32) (σ : ST) : Option (Int32) :=
  if (12 : Int32) ≤ x3 then (MD_pieces_L39 FU x1 x2 (0 : Int32) σ)
  else (bd1 (MD_owns (((12 : Int32) * x1) + x3) σ) fun r18 =>
  if r18 = 0 then (MD_pieces_c29 kb4 x1 x3 x2 (0 : Int32) σ)
  else (MD_pieces_c29 kb4 x1 x3 x2 (1 : Int32) σ))
set_option maxRecDepth 100000 in
set_option maxHeartbeats 4000000 in
theorem w_MD_pieces_b4 {X : JX} (C : JC X l D (ttf cs) eE b_MD_pieces "TollLedgerModel" 4 (Cond.code y_MD_pieces b_MD_pieces 4 r_MD_pieces :: BIG) 1 21 0 0) {σ : ST} {res : Int32} (Rt : JR X (wfm ad cs) 0 0 (PI res σ) r_MD_pieces "pieces") {kb4 : Int32 → Int32 → Int32 → ST → Option (Int32)} (hk4 : ∀ (x1 : Int32) (x2 : Int32) (x3 : Int32), kb4 x1 x2 x3 σ = some res → J (wfm ad cs) X 4 0 0 σ 4 [(0, .ref (ad 18)), (1, .int x1), (2, .int x2), (3, .int x3)] []) (x1 : Int32) (x2 : Int32) (x3 : Int32) (hf : MD_pieces_b4 kb4 x1 x2 x3 σ = some res) : J (wfm ad cs) X 4 0 0 σ 4 [(0, .ref (ad 18)), (1, .int x1), (2, .int x2), (3, .int x3)] [] := by
  unfold MD_pieces_b4 at hf
  refine j_iload_n C 3 rfl rfl d_MD_pieces_4 ?_
  refine j_bipush C (v := 12) (by decide) d_MD_pieces_5 ?_
  refine j_icmp_ge C d_MD_pieces_7 rfl (fun c7 => ?_) (fun c7 => ?_)
  · have hf := o_it c7 hf
    refine j_iconst C (v := 0) (by decide) d_MD_pieces_37 ?_
    refine j_istore_n C rfl (by decide) (loc' := [(3, .int (0 : Int32)), (0, .ref (ad 18)), (1, .int x1), (2, .int x2)]) rfl d_MD_pieces_38 ?_
    refine j_sub [1, 2, 3, 0] rfl ?_
    exact w_MD_pieces_L39 C Rt  FU x1 x2 (0 : Int32) hf
  · have hf := o_if c7 hf
    refine j_iload_n C 2 rfl rfl d_MD_pieces_10 ?_
    refine j_aload_n C 0 rfl rfl d_MD_pieces_11 ?_
    refine j_bipush C (v := 12) (by decide) d_MD_pieces_12 ?_
    refine j_iload_n C 1 rfl rfl d_MD_pieces_14 ?_
    refine j_imul C d_MD_pieces_15 ?_
    refine j_iload_n C 3 rfl rfl d_MD_pieces_16 ?_
    refine j_iadd C d_MD_pieces_17 ?_
    obtain ⟨r18, h18, hf⟩ := o_b1 hf
    refine j_callV (ci := 10) (Cn := "TollLedgerModel") (T := T_MD) (N := 39) C [.int (((12 : Int32) * x1) + x3)] [.int x2] (m_MD_owns _ _ _ _ _ (((12 : Int32) * x1) + x3) σ h18) (gdV wd_4_176 wd_4_178 wp_21 wd_1_11 wc_MD_owns) hy_MD_owns rfl ⟨18, rfl⟩ rfl rfl (by decide) (by decide) (by decide) (by decide) (Nat.le_of_ble_eq_true rfl) d_MD_pieces_18 (j_kI (r := r18) (σ1 := σ) ?_)
    refine j_if_eq C d_MD_pieces_21 rfl (fun c21 => ?_) (fun c21 => ?_)
    · have hf := o_it c21 hf
      refine j_iconst C (v := 0) (by decide) d_MD_pieces_28 ?_
      refine j_sub [0, 1, 3] rfl ?_
      exact w_MD_pieces_c29 C Rt hk4 x1 x3 x2 (0 : Int32) hf
    · have hf := o_if c21 hf
      refine j_iconst C (v := 1) (by decide) d_MD_pieces_24 ?_
      refine j_goto C d_MD_pieces_25 rfl ?_
      refine j_sub [0, 1, 3] rfl ?_
      exact w_MD_pieces_c29 C Rt hk4 x1 x3 x2 (1 : Int32) hf
def MD_pieces_L4 : Nat → Int32 → Int32 → Int32 → ST → Option (Int32)
  | 0, _, _, _, _ => none
  | N + 1, x1, x2, x3, σ => MD_pieces_b4 (fun x1 x2 x3 σ => MD_pieces_L4 N x1 x2 x3 σ) x1 x2 x3 σ
theorem w_MD_pieces_L4 {X : JX} (C : JC X l D (ttf cs) eE b_MD_pieces "TollLedgerModel" 4 (Cond.code y_MD_pieces b_MD_pieces 4 r_MD_pieces :: BIG) 1 21 0 0) {σ : ST} {res : Int32} (Rt : JR X (wfm ad cs) 0 0 (PI res σ) r_MD_pieces "pieces")  (N : Nat) (x1 : Int32) (x2 : Int32) (x3 : Int32) (hf : MD_pieces_L4 N x1 x2 x3 σ = some res) : J (wfm ad cs) X 4 0 0 σ 4 [(0, .ref (ad 18)), (1, .int x1), (2, .int x2), (3, .int x3)] [] := by
  induction N generalizing x1 x2 x3 with
  | zero => exact nomatch hf
  | succ N ih => exact w_MD_pieces_b4 C Rt  (fun x1 x2 x3 h => ih x1 x2 x3 h) x1 x2 x3 hf
def MD_pieces (x1 : Int32) (σ : ST) : Option (Int32) :=
  MD_pieces_L4 FU x1 (0 : Int32) (0 : Int32) σ
set_option maxRecDepth 100000 in
set_option maxHeartbeats 4000000 in
theorem m_MD_pieces (l : Launch) (D : va_G) (ad : Nat → Nat) (cs : Nat → ClassId) (eE : Nat × Nat) (x1 : Int32) (σ : ST) {res : Int32} (hf : MD_pieces x1 σ = some res) : MS l y_MD_pieces (Cond.code y_MD_pieces b_MD_pieces 4 r_MD_pieces :: BIG) 1 21 0 0 (wfm ad cs) D (ttf cs) eE [.ref (ad 18), .int x1] σ (PI res σ) := by
  refine MS.of (cc := b_MD_pieces) (maxL := 4) (ret := r_MD_pieces) (by decide) rfl (Nat.le_of_ble_eq_true rfl) (loc := [(0, .ref (ad 18)), (1, .int x1)]) rfl (fun X C Rt => ?_)
  unfold MD_pieces at hf
  refine j_iconst C (v := 0) (by decide) d_MD_pieces_0 ?_
  refine j_istore_n C rfl (by decide) (loc' := [(2, .int (0 : Int32)), (0, .ref (ad 18)), (1, .int x1)]) rfl d_MD_pieces_1 ?_
  refine j_iconst C (v := 0) (by decide) d_MD_pieces_2 ?_
  refine j_istore_n C rfl (by decide) (loc' := [(3, .int (0 : Int32)), (2, .int (0 : Int32)), (0, .ref (ad 18)), (1, .int x1)]) rfl d_MD_pieces_3 ?_
  refine j_sub [2, 3, 1, 0] rfl ?_
  exact w_MD_pieces_L4 C Rt  FU x1 (0 : Int32) (0 : Int32) hf
theorem d_MD_account_0 : decode b_MD_account 0 = .ok (.iload_n 1, 1) := by decide +kernel
theorem d_MD_account_1 : decode b_MD_account 1 = .ok (.invokestatic 137, 3) := by decide +kernel
theorem d_MD_account_4 : decode b_MD_account 4 = .ok (.ifCond .eq 12, 3) := by decide +kernel
theorem d_MD_account_7 : decode b_MD_account 7 = .ok (.iload_n 2, 1) := by decide +kernel
theorem d_MD_account_8 : decode b_MD_account 8 = .ok (.ifCond .lt 8, 3) := by decide +kernel
theorem d_MD_account_11 : decode b_MD_account 11 = .ok (.iload_n 2, 1) := by decide +kernel
theorem d_MD_account_12 : decode b_MD_account 12 = .ok (.iconst 3, 1) := by decide +kernel
theorem d_MD_account_13 : decode b_MD_account 13 = .ok (.if_icmp .le 5, 3) := by decide +kernel
theorem d_MD_account_16 : decode b_MD_account 16 = .ok (.iconst (-1), 1) := by decide +kernel
theorem d_MD_account_17 : decode b_MD_account 17 = .ok (.ireturn, 1) := by decide +kernel
theorem d_MD_account_18 : decode b_MD_account 18 = .ok (.aload_n 0, 1) := by decide +kernel
theorem d_MD_account_19 : decode b_MD_account 19 = .ok (.getfield 7, 3) := by decide +kernel
theorem d_MD_account_22 : decode b_MD_account 22 = .ok (.iload_n 1, 1) := by decide +kernel
theorem d_MD_account_23 : decode b_MD_account 23 = .ok (.baload, 1) := by decide +kernel
theorem d_MD_account_24 : decode b_MD_account 24 = .ok (.ifCond .ne 5, 3) := by decide +kernel
theorem d_MD_account_27 : decode b_MD_account 27 = .ok (.iconst (-1), 1) := by decide +kernel
theorem d_MD_account_28 : decode b_MD_account 28 = .ok (.ireturn, 1) := by decide +kernel
theorem d_MD_account_29 : decode b_MD_account 29 = .ok (.iload_n 2, 1) := by decide +kernel
theorem d_MD_account_30 : decode b_MD_account 30 = .ok (.ifCond .ne 12, 3) := by decide +kernel
theorem d_MD_account_33 : decode b_MD_account 33 = .ok (.aload_n 0, 1) := by decide +kernel
theorem d_MD_account_34 : decode b_MD_account 34 = .ok (.getfield 13, 3) := by decide +kernel
theorem d_MD_account_37 : decode b_MD_account 37 = .ok (.iload_n 1, 1) := by decide +kernel
theorem d_MD_account_38 : decode b_MD_account 38 = .ok (.iaload, 1) := by decide +kernel
theorem d_MD_account_39 : decode b_MD_account 39 = .ok (.goto 36, 3) := by decide +kernel
theorem d_MD_account_42 : decode b_MD_account 42 = .ok (.iload_n 2, 1) := by decide +kernel
theorem d_MD_account_43 : decode b_MD_account 43 = .ok (.iconst 1, 1) := by decide +kernel
theorem d_MD_account_44 : decode b_MD_account 44 = .ok (.if_icmp .ne 12, 3) := by decide +kernel
theorem d_MD_account_47 : decode b_MD_account 47 = .ok (.aload_n 0, 1) := by decide +kernel
theorem d_MD_account_48 : decode b_MD_account 48 = .ok (.getfield 17, 3) := by decide +kernel
theorem d_MD_account_51 : decode b_MD_account 51 = .ok (.iload_n 1, 1) := by decide +kernel
theorem d_MD_account_52 : decode b_MD_account 52 = .ok (.iaload, 1) := by decide +kernel
theorem d_MD_account_53 : decode b_MD_account 53 = .ok (.goto 22, 3) := by decide +kernel
theorem d_MD_account_56 : decode b_MD_account 56 = .ok (.iload_n 2, 1) := by decide +kernel
theorem d_MD_account_57 : decode b_MD_account 57 = .ok (.iconst 2, 1) := by decide +kernel
theorem d_MD_account_58 : decode b_MD_account 58 = .ok (.if_icmp .ne 12, 3) := by decide +kernel
theorem d_MD_account_61 : decode b_MD_account 61 = .ok (.aload_n 0, 1) := by decide +kernel
theorem d_MD_account_62 : decode b_MD_account 62 = .ok (.getfield 20, 3) := by decide +kernel
theorem d_MD_account_65 : decode b_MD_account 65 = .ok (.iload_n 1, 1) := by decide +kernel
theorem d_MD_account_66 : decode b_MD_account 66 = .ok (.iaload, 1) := by decide +kernel
theorem d_MD_account_67 : decode b_MD_account 67 = .ok (.goto 8, 3) := by decide +kernel
theorem d_MD_account_70 : decode b_MD_account 70 = .ok (.aload_n 0, 1) := by decide +kernel
theorem d_MD_account_71 : decode b_MD_account 71 = .ok (.iload_n 1, 1) := by decide +kernel
theorem d_MD_account_72 : decode b_MD_account 72 = .ok (.invokevirtual 116, 3) := by decide +kernel
theorem d_MD_account_75 : decode b_MD_account 75 = .ok (.ireturn, 1) := by decide +kernel
def MD_account (x1 : Int32) (x2 : Int32) (σ : ST) : Option (Int32) :=
  bd1 (MD_isAccount x1) fun r1 =>
  if r1 = 0 then (some (-1 : Int32))
  else (if x2 < 0 then (some (-1 : Int32))
  else (if x2 ≤ (3 : Int32) then (if x1 < 0 ∨ 6 ≤ x1.toNatClampNeg then none else
  if (gA σ 8 x1.toNatClampNeg) = 0 then (some (-1 : Int32))
  else (if x2 = 0 then (some (gA σ 9 x1.toNatClampNeg))
  else (if x2 = (1 : Int32) then (some (gA σ 10 x1.toNatClampNeg))
  else (if x2 = (2 : Int32) then (some (gA σ 11 x1.toNatClampNeg))
  else (bd1 (MD_pieces x1 σ) fun r72 =>
  some r72)))))
  else (some (-1 : Int32))))
set_option maxRecDepth 100000 in
set_option maxHeartbeats 4000000 in
theorem m_MD_account (l : Launch) (D : va_G) (ad : Nat → Nat) (cs : Nat → ClassId) (eE : Nat × Nat) (x1 : Int32) (x2 : Int32) (σ : ST) {res : Int32} (hf : MD_account x1 x2 σ = some res) : MS l y_MD_account (Cond.code y_MD_account b_MD_account 3 r_MD_account :: BIG) 2 44 0 0 (wfm ad cs) D (ttf cs) eE [.ref (ad 18), .int x1, .int x2] σ (PI res σ) := by
  refine MS.of (cc := b_MD_account) (maxL := 3) (ret := r_MD_account) (by decide) rfl (Nat.le_of_ble_eq_true rfl) (loc := [(0, .ref (ad 18)), (1, .int x1), (2, .int x2)]) rfl (fun X C Rt => ?_)
  unfold MD_account at hf
  refine j_iload_n C 1 rfl rfl d_MD_account_0 ?_
  obtain ⟨r1, h1, hf⟩ := o_b1 hf
  refine j_callS C [.int x1] [] (m_MD_isAccount _ _ _ _ _ x1 σ h1) (gdS wd_4_142 wd_4_143 wd_1_11 wc_MD_isAccount) hy_MD_isAccount rfl rfl (by decide) (by decide) (by decide) (by decide) (Nat.le_of_ble_eq_true rfl) d_MD_account_1 (j_kI (r := r1) (σ1 := σ) ?_)
  refine j_if_eq C d_MD_account_4 rfl (fun c4 => ?_) (fun c4 => ?_)
  · have hf := o_it c4 hf
    refine j_iconst C (v := -1) (by decide) d_MD_account_16 ?_
    have hf := Option.some.inj hf
    subst hf
    exact j_iret C Rt (Nat.zero_le _) (Nat.zero_le _) d_MD_account_17 ⟨rfl, rfl⟩
  · have hf := o_if c4 hf
    refine j_iload_n C 2 rfl rfl d_MD_account_7 ?_
    refine j_if_lt C d_MD_account_8 rfl (fun c8 => ?_) (fun c8 => ?_)
    · have hf := o_it c8 hf
      refine j_iconst C (v := -1) (by decide) d_MD_account_16 ?_
      have hf := Option.some.inj hf
      subst hf
      exact j_iret C Rt (Nat.zero_le _) (Nat.zero_le _) d_MD_account_17 ⟨rfl, rfl⟩
    · have hf := o_if c8 hf
      refine j_iload_n C 2 rfl rfl d_MD_account_11 ?_
      refine j_iconst C (v := 3) (by decide) d_MD_account_12 ?_
      refine j_icmp_le C d_MD_account_13 rfl (fun c13 => ?_) (fun c13 => ?_)
      · have hf := o_it c13 hf
        refine j_aload_n C 0 rfl rfl d_MD_account_18 ?_
        refine g_MD_exists C (List.mem_cons_of_mem _ wd_4_19) d_MD_account_19 ?_
        refine j_iload_n C 1 rfl rfl d_MD_account_22 ?_
        obtain ⟨g23, hf⟩ := o_gn hf
        refine la_m_exists C g23 d_MD_account_23 ?_
        refine j_if_ne C d_MD_account_24 rfl (fun c24 => ?_) (fun c24 => ?_)
        · have hf := o_if c24 hf
          refine j_iload_n C 2 rfl rfl d_MD_account_29 ?_
          refine j_if_ne C d_MD_account_30 rfl (fun c30 => ?_) (fun c30 => ?_)
          · have hf := o_if c30 hf
            refine j_iload_n C 2 rfl rfl d_MD_account_42 ?_
            refine j_iconst C (v := 1) (by decide) d_MD_account_43 ?_
            refine j_icmp_ne C d_MD_account_44 rfl (fun c44 => ?_) (fun c44 => ?_)
            · have hf := o_if c44 hf
              refine j_iload_n C 2 rfl rfl d_MD_account_56 ?_
              refine j_iconst C (v := 2) (by decide) d_MD_account_57 ?_
              refine j_icmp_ne C d_MD_account_58 rfl (fun c58 => ?_) (fun c58 => ?_)
              · have hf := o_if c58 hf
                refine j_aload_n C 0 rfl rfl d_MD_account_70 ?_
                refine j_iload_n C 1 rfl rfl d_MD_account_71 ?_
                obtain ⟨r72, h72, hf⟩ := o_b1 hf
                refine j_callV (ci := 10) (Cn := "TollLedgerModel") (T := T_MD) (N := 39) C [.int x1] [] (m_MD_pieces _ _ _ _ _ x1 σ h72) (gdV wd_4_172 wd_4_174 wp_20 wd_1_11 wc_MD_pieces) hy_MD_pieces rfl ⟨18, rfl⟩ rfl rfl (by decide) (by decide) (by decide) (by decide) (Nat.le_of_ble_eq_true rfl) d_MD_account_72 (j_kI (r := r72) (σ1 := σ) ?_)
                have hf := Option.some.inj hf
                subst hf
                exact j_iret C Rt (Nat.zero_le _) (Nat.zero_le _) d_MD_account_75 ⟨rfl, rfl⟩
              · have hf := o_it c58 hf
                refine j_aload_n C 0 rfl rfl d_MD_account_61 ?_
                refine g_MD_rates C (List.mem_cons_of_mem _ wd_4_22) d_MD_account_62 ?_
                refine j_iload_n C 1 rfl rfl d_MD_account_65 ?_
                refine la_m_rates C g23 d_MD_account_66 ?_
                refine j_goto C d_MD_account_67 rfl ?_
                have hf := Option.some.inj hf
                subst hf
                exact j_iret C Rt (Nat.zero_le _) (Nat.zero_le _) d_MD_account_75 ⟨rfl, rfl⟩
            · have hf := o_it c44 hf
              refine j_aload_n C 0 rfl rfl d_MD_account_47 ?_
              refine g_MD_numbers C (List.mem_cons_of_mem _ wd_4_21) d_MD_account_48 ?_
              refine j_iload_n C 1 rfl rfl d_MD_account_51 ?_
              refine la_m_numbers C g23 d_MD_account_52 ?_
              refine j_goto C d_MD_account_53 rfl ?_
              have hf := Option.some.inj hf
              subst hf
              exact j_iret C Rt (Nat.zero_le _) (Nat.zero_le _) d_MD_account_75 ⟨rfl, rfl⟩
          · have hf := o_it c30 hf
            refine j_aload_n C 0 rfl rfl d_MD_account_33 ?_
            refine g_MD_coins C (List.mem_cons_of_mem _ wd_4_20) d_MD_account_34 ?_
            refine j_iload_n C 1 rfl rfl d_MD_account_37 ?_
            refine la_m_coins C g23 d_MD_account_38 ?_
            refine j_goto C d_MD_account_39 rfl ?_
            have hf := Option.some.inj hf
            subst hf
            exact j_iret C Rt (Nat.zero_le _) (Nat.zero_le _) d_MD_account_75 ⟨rfl, rfl⟩
        · have hf := o_it c24 hf
          refine j_iconst C (v := -1) (by decide) d_MD_account_27 ?_
          have hf := Option.some.inj hf
          subst hf
          exact j_iret C Rt (Nat.zero_le _) (Nat.zero_le _) d_MD_account_28 ⟨rfl, rfl⟩
      · have hf := o_if c13 hf
        refine j_iconst C (v := -1) (by decide) d_MD_account_16 ?_
        have hf := Option.some.inj hf
        subst hf
        exact j_iret C Rt (Nat.zero_le _) (Nat.zero_le _) d_MD_account_17 ⟨rfl, rfl⟩
theorem d_MD_ahead_0 : decode b_MD_ahead 0 = .ok (.aload_n 0, 1) := by decide +kernel
theorem d_MD_ahead_1 : decode b_MD_ahead 1 = .ok (.getfield 44, 3) := by decide +kernel
theorem d_MD_ahead_4 : decode b_MD_ahead 4 = .ok (.iload_n 1, 1) := by decide +kernel
theorem d_MD_ahead_5 : decode b_MD_ahead 5 = .ok (.iaload, 1) := by decide +kernel
theorem d_MD_ahead_6 : decode b_MD_ahead 6 = .ok (.i2l, 1) := by decide +kernel
theorem d_MD_ahead_7 : decode b_MD_ahead 7 = .ok (.aload_n 0, 1) := by decide +kernel
theorem d_MD_ahead_8 : decode b_MD_ahead 8 = .ok (.getfield 47, 3) := by decide +kernel
theorem d_MD_ahead_11 : decode b_MD_ahead 11 = .ok (.iload_n 2, 1) := by decide +kernel
theorem d_MD_ahead_12 : decode b_MD_ahead 12 = .ok (.iaload, 1) := by decide +kernel
theorem d_MD_ahead_13 : decode b_MD_ahead 13 = .ok (.i2l, 1) := by decide +kernel
theorem d_MD_ahead_14 : decode b_MD_ahead 14 = .ok (.lmul, 1) := by decide +kernel
theorem d_MD_ahead_15 : decode b_MD_ahead 15 = .ok (.lstore_n 3, 1) := by decide +kernel
theorem d_MD_ahead_16 : decode b_MD_ahead 16 = .ok (.aload_n 0, 1) := by decide +kernel
theorem d_MD_ahead_17 : decode b_MD_ahead 17 = .ok (.getfield 44, 3) := by decide +kernel
theorem d_MD_ahead_20 : decode b_MD_ahead 20 = .ok (.iload_n 2, 1) := by decide +kernel
theorem d_MD_ahead_21 : decode b_MD_ahead 21 = .ok (.iaload, 1) := by decide +kernel
theorem d_MD_ahead_22 : decode b_MD_ahead 22 = .ok (.i2l, 1) := by decide +kernel
theorem d_MD_ahead_23 : decode b_MD_ahead 23 = .ok (.aload_n 0, 1) := by decide +kernel
theorem d_MD_ahead_24 : decode b_MD_ahead 24 = .ok (.getfield 47, 3) := by decide +kernel
theorem d_MD_ahead_27 : decode b_MD_ahead 27 = .ok (.iload_n 1, 1) := by decide +kernel
theorem d_MD_ahead_28 : decode b_MD_ahead 28 = .ok (.iaload, 1) := by decide +kernel
theorem d_MD_ahead_29 : decode b_MD_ahead 29 = .ok (.i2l, 1) := by decide +kernel
theorem d_MD_ahead_30 : decode b_MD_ahead 30 = .ok (.lmul, 1) := by decide +kernel
theorem d_MD_ahead_31 : decode b_MD_ahead 31 = .ok (.lstore 5, 2) := by decide +kernel
theorem d_MD_ahead_33 : decode b_MD_ahead 33 = .ok (.lload_n 3, 1) := by decide +kernel
theorem d_MD_ahead_34 : decode b_MD_ahead 34 = .ok (.lload 5, 2) := by decide +kernel
theorem d_MD_ahead_36 : decode b_MD_ahead 36 = .ok (.lcmp, 1) := by decide +kernel
theorem d_MD_ahead_37 : decode b_MD_ahead 37 = .ok (.ifCond .lt 25, 3) := by decide +kernel
theorem d_MD_ahead_40 : decode b_MD_ahead 40 = .ok (.lload_n 3, 1) := by decide +kernel
theorem d_MD_ahead_41 : decode b_MD_ahead 41 = .ok (.lload 5, 2) := by decide +kernel
theorem d_MD_ahead_43 : decode b_MD_ahead 43 = .ok (.lcmp, 1) := by decide +kernel
theorem d_MD_ahead_44 : decode b_MD_ahead 44 = .ok (.ifCond .ne 22, 3) := by decide +kernel
theorem d_MD_ahead_47 : decode b_MD_ahead 47 = .ok (.aload_n 0, 1) := by decide +kernel
theorem d_MD_ahead_48 : decode b_MD_ahead 48 = .ok (.getfield 32, 3) := by decide +kernel
theorem d_MD_ahead_51 : decode b_MD_ahead 51 = .ok (.iload_n 1, 1) := by decide +kernel
theorem d_MD_ahead_52 : decode b_MD_ahead 52 = .ok (.iaload, 1) := by decide +kernel
theorem d_MD_ahead_53 : decode b_MD_ahead 53 = .ok (.aload_n 0, 1) := by decide +kernel
theorem d_MD_ahead_54 : decode b_MD_ahead 54 = .ok (.getfield 32, 3) := by decide +kernel
theorem d_MD_ahead_57 : decode b_MD_ahead 57 = .ok (.iload_n 2, 1) := by decide +kernel
theorem d_MD_ahead_58 : decode b_MD_ahead 58 = .ok (.iaload, 1) := by decide +kernel
theorem d_MD_ahead_59 : decode b_MD_ahead 59 = .ok (.if_icmp .ge 7, 3) := by decide +kernel
theorem d_MD_ahead_62 : decode b_MD_ahead 62 = .ok (.iconst 1, 1) := by decide +kernel
theorem d_MD_ahead_63 : decode b_MD_ahead 63 = .ok (.goto 4, 3) := by decide +kernel
theorem d_MD_ahead_66 : decode b_MD_ahead 66 = .ok (.iconst 0, 1) := by decide +kernel
theorem d_MD_ahead_67 : decode b_MD_ahead 67 = .ok (.ireturn, 1) := by decide +kernel
def MD_ahead (x1 : Int32) (x2 : Int32) (σ : ST) : Option (Int32) :=
  if x1 < 0 ∨ 12 ≤ x1.toNatClampNeg then none else
  if x2 < 0 ∨ 12 ≤ x2.toNatClampNeg then none else
  nmL ((gA σ 19 x1.toNatClampNeg).toInt64 * (gA σ 20 x2.toNatClampNeg).toInt64) fun x3_15 =>
  nmL ((gA σ 19 x2.toNatClampNeg).toInt64 * (gA σ 20 x1.toNatClampNeg).toInt64) fun x5_31 =>
  if (lg_cmp x3_15 x5_31) < 0 then (some (1 : Int32))
  else (if (lg_cmp x3_15 x5_31) = 0 then (if (gA σ 15 x2.toNatClampNeg) ≤ (gA σ 15 x1.toNatClampNeg) then (some (0 : Int32))
  else (some (1 : Int32)))
  else (some (0 : Int32)))
set_option maxRecDepth 100000 in
set_option maxHeartbeats 4000000 in
theorem m_MD_ahead (l : Launch) (D : va_G) (ad : Nat → Nat) (cs : Nat → ClassId) (eE : Nat × Nat) (x1 : Int32) (x2 : Int32) (σ : ST) {res : Int32} (hf : MD_ahead x1 x2 σ = some res) : MS l y_MD_ahead (Cond.code y_MD_ahead b_MD_ahead 7 r_MD_ahead :: BIG) 0 0 0 0 (wfm ad cs) D (ttf cs) eE [.ref (ad 18), .int x1, .int x2] σ (PI res σ) := by
  refine MS.of (cc := b_MD_ahead) (maxL := 7) (ret := r_MD_ahead) (by decide) rfl (Nat.le_of_ble_eq_true rfl) (loc := [(0, .ref (ad 18)), (1, .int x1), (2, .int x2)]) rfl (fun X C Rt => ?_)
  unfold MD_ahead at hf
  refine j_aload_n C 0 rfl rfl d_MD_ahead_0 ?_
  refine g_MD_wOf C (List.mem_cons_of_mem _ wd_4_32) d_MD_ahead_1 ?_
  refine j_iload_n C 1 rfl rfl d_MD_ahead_4 ?_
  obtain ⟨g5, hf⟩ := o_gn hf
  refine la_m_wOf C g5 d_MD_ahead_5 ?_
  refine j_i2l C d_MD_ahead_6 ?_
  refine j_aload_n C 0 rfl rfl d_MD_ahead_7 ?_
  refine g_MD_gOf C (List.mem_cons_of_mem _ wd_4_33) d_MD_ahead_8 ?_
  refine j_iload_n C 2 rfl rfl d_MD_ahead_11 ?_
  obtain ⟨g12, hf⟩ := o_gn hf
  refine la_m_gOf C g12 d_MD_ahead_12 ?_
  refine j_i2l C d_MD_ahead_13 ?_
  refine j_lmul C d_MD_ahead_14 ?_
  obtain ⟨x3_15, ex3_15, hf⟩ := o_nmL hf
  refine j_topL ex3_15 ?_
  refine j_lstore_n C rfl (by decide) (loc' := [(3, .long x3_15), (0, .ref (ad 18)), (1, .int x1), (2, .int x2)]) rfl d_MD_ahead_15 ?_
  refine j_aload_n C 1 rfl rfl d_MD_ahead_16 ?_
  refine g_MD_wOf C (List.mem_cons_of_mem _ wd_4_32) d_MD_ahead_17 ?_
  refine j_iload_n C 3 rfl rfl d_MD_ahead_20 ?_
  refine la_m_wOf C g12 d_MD_ahead_21 ?_
  refine j_i2l C d_MD_ahead_22 ?_
  refine j_aload_n C 1 rfl rfl d_MD_ahead_23 ?_
  refine g_MD_gOf C (List.mem_cons_of_mem _ wd_4_33) d_MD_ahead_24 ?_
  refine j_iload_n C 2 rfl rfl d_MD_ahead_27 ?_
  refine la_m_gOf C g5 d_MD_ahead_28 ?_
  refine j_i2l C d_MD_ahead_29 ?_
  refine j_lmul C d_MD_ahead_30 ?_
  obtain ⟨x5_31, ex5_31, hf⟩ := o_nmL hf
  refine j_topL ex5_31 ?_
  refine j_lstore C (by decide) (loc' := [(5, .long x5_31), (3, .long x3_15), (0, .ref (ad 18)), (1, .int x1), (2, .int x2)]) rfl d_MD_ahead_31 ?_
  refine j_lload_n C 1 rfl rfl d_MD_ahead_33 ?_
  refine j_lload C 0 rfl d_MD_ahead_34 ?_
  refine j_lcmp C d_MD_ahead_36 ?_
  refine j_if_lt C d_MD_ahead_37 rfl (fun c37 => ?_) (fun c37 => ?_)
  · have hf := o_it c37 hf
    refine j_iconst C (v := 1) (by decide) d_MD_ahead_62 ?_
    refine j_goto C d_MD_ahead_63 rfl ?_
    have hf := Option.some.inj hf
    subst hf
    exact j_zret C Rt (by decide) (Nat.zero_le _) (Nat.zero_le _) d_MD_ahead_67 ⟨rfl, rfl⟩
  · have hf := o_if c37 hf
    refine j_lload_n C 1 rfl rfl d_MD_ahead_40 ?_
    refine j_lload C 0 rfl d_MD_ahead_41 ?_
    refine j_lcmp C d_MD_ahead_43 ?_
    refine j_if_ne C d_MD_ahead_44 rfl (fun c44 => ?_) (fun c44 => ?_)
    · have hf := o_if c44 hf
      refine j_iconst C (v := 0) (by decide) d_MD_ahead_66 ?_
      have hf := Option.some.inj hf
      subst hf
      exact j_zret C Rt (by decide) (Nat.zero_le _) (Nat.zero_le _) d_MD_ahead_67 ⟨rfl, rfl⟩
    · have hf := o_it c44 hf
      refine j_aload_n C 2 rfl rfl d_MD_ahead_47 ?_
      refine g_MD_offerId C (List.mem_cons_of_mem _ wd_4_28) d_MD_ahead_48 ?_
      refine j_iload_n C 3 rfl rfl d_MD_ahead_51 ?_
      refine la_m_offerId C g5 d_MD_ahead_52 ?_
      refine j_aload_n C 2 rfl rfl d_MD_ahead_53 ?_
      refine g_MD_offerId C (List.mem_cons_of_mem _ wd_4_28) d_MD_ahead_54 ?_
      refine j_iload_n C 4 rfl rfl d_MD_ahead_57 ?_
      refine la_m_offerId C g12 d_MD_ahead_58 ?_
      refine j_icmp_ge C d_MD_ahead_59 rfl (fun c59 => ?_) (fun c59 => ?_)
      · have hf := o_it c59 hf
        refine j_iconst C (v := 0) (by decide) d_MD_ahead_66 ?_
        have hf := Option.some.inj hf
        subst hf
        exact j_zret C Rt (by decide) (Nat.zero_le _) (Nat.zero_le _) d_MD_ahead_67 ⟨rfl, rfl⟩
      · have hf := o_if c59 hf
        refine j_iconst C (v := 1) (by decide) d_MD_ahead_62 ?_
        refine j_goto C d_MD_ahead_63 rfl ?_
        have hf := Option.some.inj hf
        subst hf
        exact j_zret C Rt (by decide) (Nat.zero_le _) (Nat.zero_le _) d_MD_ahead_67 ⟨rfl, rfl⟩
theorem d_MD_isLine_0 : decode b_MD_isLine 0 = .ok (.iload_n 0, 1) := by decide +kernel
theorem d_MD_isLine_1 : decode b_MD_isLine 1 = .ok (.invokestatic 137, 3) := by decide +kernel
theorem d_MD_isLine_4 : decode b_MD_isLine 4 = .ok (.ifCond .eq 29, 3) := by decide +kernel
theorem d_MD_isLine_7 : decode b_MD_isLine 7 = .ok (.iload_n 1, 1) := by decide +kernel
theorem d_MD_isLine_8 : decode b_MD_isLine 8 = .ok (.invokestatic 137, 3) := by decide +kernel
theorem d_MD_isLine_11 : decode b_MD_isLine 11 = .ok (.ifCond .eq 22, 3) := by decide +kernel
theorem d_MD_isLine_14 : decode b_MD_isLine 14 = .ok (.iload_n 0, 1) := by decide +kernel
theorem d_MD_isLine_15 : decode b_MD_isLine 15 = .ok (.iload_n 1, 1) := by decide +kernel
theorem d_MD_isLine_16 : decode b_MD_isLine 16 = .ok (.if_icmp .eq 17, 3) := by decide +kernel
theorem d_MD_isLine_19 : decode b_MD_isLine 19 = .ok (.iload_n 2, 1) := by decide +kernel
theorem d_MD_isLine_20 : decode b_MD_isLine 20 = .ok (.iconst 1, 1) := by decide +kernel
theorem d_MD_isLine_21 : decode b_MD_isLine 21 = .ok (.if_icmp .eq 8, 3) := by decide +kernel
theorem d_MD_isLine_24 : decode b_MD_isLine 24 = .ok (.iload_n 2, 1) := by decide +kernel
theorem d_MD_isLine_25 : decode b_MD_isLine 25 = .ok (.iconst 2, 1) := by decide +kernel
theorem d_MD_isLine_26 : decode b_MD_isLine 26 = .ok (.if_icmp .ne 7, 3) := by decide +kernel
theorem d_MD_isLine_29 : decode b_MD_isLine 29 = .ok (.iconst 1, 1) := by decide +kernel
theorem d_MD_isLine_30 : decode b_MD_isLine 30 = .ok (.goto 4, 3) := by decide +kernel
theorem d_MD_isLine_33 : decode b_MD_isLine 33 = .ok (.iconst 0, 1) := by decide +kernel
theorem d_MD_isLine_34 : decode b_MD_isLine 34 = .ok (.ireturn, 1) := by decide +kernel
def MD_isLine (x0 : Int32) (x1 : Int32) (x2 : Int32) : Option (Int32) :=
  bd1 (MD_isAccount x0) fun r1 =>
  if r1 = 0 then (some (0 : Int32))
  else (bd1 (MD_isAccount x1) fun r8 =>
  if r8 = 0 then (some (0 : Int32))
  else (if x0 = x1 then (some (0 : Int32))
  else (if x2 = (1 : Int32) then (some (1 : Int32))
  else (if x2 = (2 : Int32) then (some (1 : Int32))
  else (some (0 : Int32))))))
set_option maxRecDepth 100000 in
set_option maxHeartbeats 4000000 in
theorem m_MD_isLine (l : Launch) (D : va_G) (ad : Nat → Nat) (cs : Nat → ClassId) (eE : Nat × Nat) (x0 : Int32) (x1 : Int32) (x2 : Int32) (σ : ST) {res : Int32} (hf : MD_isLine x0 x1 x2 = some res) : MS l y_MD_isLine (Cond.code y_MD_isLine b_MD_isLine 3 r_MD_isLine :: BIG) 1 20 0 0 (wfm ad cs) D (ttf cs) eE [.int x0, .int x1, .int x2] σ (PI res σ) := by
  refine MS.of (cc := b_MD_isLine) (maxL := 3) (ret := r_MD_isLine) (by decide) rfl (Nat.le_of_ble_eq_true rfl) (loc := [(0, .int x0), (1, .int x1), (2, .int x2)]) rfl (fun X C Rt => ?_)
  unfold MD_isLine at hf
  refine j_iload_n C 0 rfl rfl d_MD_isLine_0 ?_
  obtain ⟨r1, h1, hf⟩ := o_b1 hf
  refine j_callS C [.int x0] [] (m_MD_isAccount _ _ _ _ _ x0 σ h1) (gdS wd_4_142 wd_4_143 wd_1_11 wc_MD_isAccount) hy_MD_isAccount rfl rfl (by decide) (by decide) (by decide) (by decide) (Nat.le_of_ble_eq_true rfl) d_MD_isLine_1 (j_kI (r := r1) (σ1 := σ) ?_)
  refine j_if_eq C d_MD_isLine_4 rfl (fun c4 => ?_) (fun c4 => ?_)
  · have hf := o_it c4 hf
    refine j_iconst C (v := 0) (by decide) d_MD_isLine_33 ?_
    have hf := Option.some.inj hf
    subst hf
    exact j_zret C Rt (by decide) (Nat.zero_le _) (Nat.zero_le _) d_MD_isLine_34 ⟨rfl, rfl⟩
  · have hf := o_if c4 hf
    refine j_iload_n C 1 rfl rfl d_MD_isLine_7 ?_
    obtain ⟨r8, h8, hf⟩ := o_b1 hf
    refine j_callS C [.int x1] [] (m_MD_isAccount _ _ _ _ _ x1 σ h8) (gdS wd_4_142 wd_4_143 wd_1_11 wc_MD_isAccount) hy_MD_isAccount rfl rfl (by decide) (by decide) (by decide) (by decide) (Nat.le_of_ble_eq_true rfl) d_MD_isLine_8 (j_kI (r := r8) (σ1 := σ) ?_)
    refine j_if_eq C d_MD_isLine_11 rfl (fun c11 => ?_) (fun c11 => ?_)
    · have hf := o_it c11 hf
      refine j_iconst C (v := 0) (by decide) d_MD_isLine_33 ?_
      have hf := Option.some.inj hf
      subst hf
      exact j_zret C Rt (by decide) (Nat.zero_le _) (Nat.zero_le _) d_MD_isLine_34 ⟨rfl, rfl⟩
    · have hf := o_if c11 hf
      refine j_iload_n C 0 rfl rfl d_MD_isLine_14 ?_
      refine j_iload_n C 1 rfl rfl d_MD_isLine_15 ?_
      refine j_icmp_eq C d_MD_isLine_16 rfl (fun c16 => ?_) (fun c16 => ?_)
      · have hf := o_it c16 hf
        refine j_iconst C (v := 0) (by decide) d_MD_isLine_33 ?_
        have hf := Option.some.inj hf
        subst hf
        exact j_zret C Rt (by decide) (Nat.zero_le _) (Nat.zero_le _) d_MD_isLine_34 ⟨rfl, rfl⟩
      · have hf := o_if c16 hf
        refine j_iload_n C 2 rfl rfl d_MD_isLine_19 ?_
        refine j_iconst C (v := 1) (by decide) d_MD_isLine_20 ?_
        refine j_icmp_eq C d_MD_isLine_21 rfl (fun c21 => ?_) (fun c21 => ?_)
        · have hf := o_it c21 hf
          refine j_iconst C (v := 1) (by decide) d_MD_isLine_29 ?_
          refine j_goto C d_MD_isLine_30 rfl ?_
          have hf := Option.some.inj hf
          subst hf
          exact j_zret C Rt (by decide) (Nat.zero_le _) (Nat.zero_le _) d_MD_isLine_34 ⟨rfl, rfl⟩
        · have hf := o_if c21 hf
          refine j_iload_n C 2 rfl rfl d_MD_isLine_24 ?_
          refine j_iconst C (v := 2) (by decide) d_MD_isLine_25 ?_
          refine j_icmp_ne C d_MD_isLine_26 rfl (fun c26 => ?_) (fun c26 => ?_)
          · have hf := o_if c26 hf
            refine j_iconst C (v := 0) (by decide) d_MD_isLine_33 ?_
            have hf := Option.some.inj hf
            subst hf
            exact j_zret C Rt (by decide) (Nat.zero_le _) (Nat.zero_le _) d_MD_isLine_34 ⟨rfl, rfl⟩
          · have hf := o_it c26 hf
            refine j_iconst C (v := 1) (by decide) d_MD_isLine_29 ?_
            refine j_goto C d_MD_isLine_30 rfl ?_
            have hf := Option.some.inj hf
            subst hf
            exact j_zret C Rt (by decide) (Nat.zero_le _) (Nat.zero_le _) d_MD_isLine_34 ⟨rfl, rfl⟩
theorem d_MD_line_0 : decode b_MD_line 0 = .ok (.bipush 12, 2) := by decide +kernel
theorem d_MD_line_2 : decode b_MD_line 2 = .ok (.iload_n 0, 1) := by decide +kernel
theorem d_MD_line_3 : decode b_MD_line 3 = .ok (.imul, 1) := by decide +kernel
theorem d_MD_line_4 : decode b_MD_line 4 = .ok (.iconst 2, 1) := by decide +kernel
theorem d_MD_line_5 : decode b_MD_line 5 = .ok (.iload_n 1, 1) := by decide +kernel
theorem d_MD_line_6 : decode b_MD_line 6 = .ok (.imul, 1) := by decide +kernel
theorem d_MD_line_7 : decode b_MD_line 7 = .ok (.iadd, 1) := by decide +kernel
theorem d_MD_line_8 : decode b_MD_line 8 = .ok (.iload_n 2, 1) := by decide +kernel
theorem d_MD_line_9 : decode b_MD_line 9 = .ok (.iadd, 1) := by decide +kernel
theorem d_MD_line_10 : decode b_MD_line 10 = .ok (.iconst 1, 1) := by decide +kernel
theorem d_MD_line_11 : decode b_MD_line 11 = .ok (.isub, 1) := by decide +kernel
theorem d_MD_line_12 : decode b_MD_line 12 = .ok (.ireturn, 1) := by decide +kernel
def MD_line (x0 : Int32) (x1 : Int32) (x2 : Int32) : Option (Int32) :=
  some (((((12 : Int32) * x0) + ((2 : Int32) * x1)) + x2) - (1 : Int32))
set_option maxRecDepth 100000 in
set_option maxHeartbeats 4000000 in
theorem m_MD_line (l : Launch) (D : va_G) (ad : Nat → Nat) (cs : Nat → ClassId) (eE : Nat × Nat) (x0 : Int32) (x1 : Int32) (x2 : Int32) (σ : ST) {res : Int32} (hf : MD_line x0 x1 x2 = some res) : MS l y_MD_line (Cond.code y_MD_line b_MD_line 3 r_MD_line :: BIG) 0 0 0 0 (wfm ad cs) D (ttf cs) eE [.int x0, .int x1, .int x2] σ (PI res σ) := by
  refine MS.of (cc := b_MD_line) (maxL := 3) (ret := r_MD_line) (by decide) rfl (Nat.le_of_ble_eq_true rfl) (loc := [(0, .int x0), (1, .int x1), (2, .int x2)]) rfl (fun X C Rt => ?_)
  unfold MD_line at hf
  refine j_bipush C (v := 12) (by decide) d_MD_line_0 ?_
  refine j_iload_n C 0 rfl rfl d_MD_line_2 ?_
  refine j_imul C d_MD_line_3 ?_
  refine j_iconst C (v := 2) (by decide) d_MD_line_4 ?_
  refine j_iload_n C 1 rfl rfl d_MD_line_5 ?_
  refine j_imul C d_MD_line_6 ?_
  refine j_iadd C d_MD_line_7 ?_
  refine j_iload_n C 2 rfl rfl d_MD_line_8 ?_
  refine j_iadd C d_MD_line_9 ?_
  refine j_iconst C (v := 1) (by decide) d_MD_line_10 ?_
  refine j_isub C d_MD_line_11 ?_
  have hf := Option.some.inj hf
  subst hf
  exact j_iret C Rt (Nat.zero_le _) (Nat.zero_le _) d_MD_line_12 ⟨rfl, rfl⟩
theorem d_MD_balance_0 : decode b_MD_balance 0 = .ok (.iload_n 1, 1) := by decide +kernel
theorem d_MD_balance_1 : decode b_MD_balance 1 = .ok (.iload_n 2, 1) := by decide +kernel
theorem d_MD_balance_2 : decode b_MD_balance 2 = .ok (.iload_n 3, 1) := by decide +kernel
theorem d_MD_balance_3 : decode b_MD_balance 3 = .ok (.invokestatic 233, 3) := by decide +kernel
theorem d_MD_balance_6 : decode b_MD_balance 6 = .ok (.ifCond .eq 17, 3) := by decide +kernel
theorem d_MD_balance_9 : decode b_MD_balance 9 = .ok (.aload_n 0, 1) := by decide +kernel
theorem d_MD_balance_10 : decode b_MD_balance 10 = .ok (.getfield 23, 3) := by decide +kernel
theorem d_MD_balance_13 : decode b_MD_balance 13 = .ok (.iload_n 1, 1) := by decide +kernel
theorem d_MD_balance_14 : decode b_MD_balance 14 = .ok (.iload_n 2, 1) := by decide +kernel
theorem d_MD_balance_15 : decode b_MD_balance 15 = .ok (.iload_n 3, 1) := by decide +kernel
theorem d_MD_balance_16 : decode b_MD_balance 16 = .ok (.invokestatic 102, 3) := by decide +kernel
theorem d_MD_balance_19 : decode b_MD_balance 19 = .ok (.iaload, 1) := by decide +kernel
theorem d_MD_balance_20 : decode b_MD_balance 20 = .ok (.goto 4, 3) := by decide +kernel
theorem d_MD_balance_23 : decode b_MD_balance 23 = .ok (.iconst 0, 1) := by decide +kernel
theorem d_MD_balance_24 : decode b_MD_balance 24 = .ok (.ireturn, 1) := by decide +kernel
def MD_balance (x1 : Int32) (x2 : Int32) (x3 : Int32) (σ : ST) : Option (Int32) :=
  bd1 (MD_isLine x1 x2 x3) fun r3 =>
  if r3 = 0 then (some (0 : Int32))
  else (bd1 (MD_line x1 x2 x3) fun r16 =>
  if r16 < 0 ∨ 72 ≤ r16.toNatClampNeg then none else
  some (gA σ 12 r16.toNatClampNeg))
set_option maxRecDepth 100000 in
set_option maxHeartbeats 4000000 in
theorem m_MD_balance (l : Launch) (D : va_G) (ad : Nat → Nat) (cs : Nat → ClassId) (eE : Nat × Nat) (x1 : Int32) (x2 : Int32) (x3 : Int32) (σ : ST) {res : Int32} (hf : MD_balance x1 x2 x3 σ = some res) : MS l y_MD_balance (Cond.code y_MD_balance b_MD_balance 4 r_MD_balance :: BIG) 2 42 0 0 (wfm ad cs) D (ttf cs) eE [.ref (ad 18), .int x1, .int x2, .int x3] σ (PI res σ) := by
  refine MS.of (cc := b_MD_balance) (maxL := 4) (ret := r_MD_balance) (by decide) rfl (Nat.le_of_ble_eq_true rfl) (loc := [(0, .ref (ad 18)), (1, .int x1), (2, .int x2), (3, .int x3)]) rfl (fun X C Rt => ?_)
  unfold MD_balance at hf
  refine j_iload_n C 1 rfl rfl d_MD_balance_0 ?_
  refine j_iload_n C 2 rfl rfl d_MD_balance_1 ?_
  refine j_iload_n C 3 rfl rfl d_MD_balance_2 ?_
  obtain ⟨r3, h3, hf⟩ := o_b1 hf
  refine j_callS C [.int x1, .int x2, .int x3] [] (m_MD_isLine _ _ _ _ _ x1 x2 x3 σ h3) (gdS wd_5_53 wd_5_54 wd_1_11 wc_MD_isLine) hy_MD_isLine rfl rfl (by decide) (by decide) (by decide) (by decide) (Nat.le_of_ble_eq_true rfl) d_MD_balance_3 (j_kI (r := r3) (σ1 := σ) ?_)
  refine j_if_eq C d_MD_balance_6 rfl (fun c6 => ?_) (fun c6 => ?_)
  · have hf := o_it c6 hf
    refine j_iconst C (v := 0) (by decide) d_MD_balance_23 ?_
    have hf := Option.some.inj hf
    subst hf
    exact j_iret C Rt (Nat.zero_le _) (Nat.zero_le _) d_MD_balance_24 ⟨rfl, rfl⟩
  · have hf := o_if c6 hf
    refine j_aload_n C 0 rfl rfl d_MD_balance_9 ?_
    refine g_MD_balances C (List.mem_cons_of_mem _ wd_4_23) d_MD_balance_10 ?_
    refine j_iload_n C 1 rfl rfl d_MD_balance_13 ?_
    refine j_iload_n C 2 rfl rfl d_MD_balance_14 ?_
    refine j_iload_n C 3 rfl rfl d_MD_balance_15 ?_
    obtain ⟨r16, h16, hf⟩ := o_b1 hf
    refine j_callS C [.int x1, .int x2, .int x3] [.ref (ad 23)] (m_MD_line _ _ _ _ _ x1 x2 x3 σ h16) (gdS wd_4_186 wd_4_187 wd_1_11 wc_MD_line) hy_MD_line rfl rfl (by decide) (by decide) (by decide) (by decide) (Nat.le_of_ble_eq_true rfl) d_MD_balance_16 (j_kI (r := r16) (σ1 := σ) ?_)
    obtain ⟨g19, hf⟩ := o_gn hf
    refine la_m_balances C g19 d_MD_balance_19 ?_
    refine j_goto C d_MD_balance_20 rfl ?_
    have hf := Option.some.inj hf
    subst hf
    exact j_iret C Rt (Nat.zero_le _) (Nat.zero_le _) d_MD_balance_24 ⟨rfl, rfl⟩
theorem d_MD_begin_0 : decode b_MD_begin 0 = .ok (.iload_n 1, 1) := by decide +kernel
theorem d_MD_begin_1 : decode b_MD_begin 1 = .ok (.ifCond .eq 10, 3) := by decide +kernel
theorem d_MD_begin_4 : decode b_MD_begin 4 = .ok (.aload_n 0, 1) := by decide +kernel
theorem d_MD_begin_5 : decode b_MD_begin 5 = .ok (.getfield 68, 3) := by decide +kernel
theorem d_MD_begin_8 : decode b_MD_begin 8 = .ok (.ifCond .ge 5, 3) := by decide +kernel
theorem d_MD_begin_11 : decode b_MD_begin 11 = .ok (.iconst (-1), 1) := by decide +kernel
theorem d_MD_begin_12 : decode b_MD_begin 12 = .ok (.ireturn, 1) := by decide +kernel
theorem d_MD_begin_13 : decode b_MD_begin 13 = .ok (.aload_n 0, 1) := by decide +kernel
theorem d_MD_begin_14 : decode b_MD_begin 14 = .ok (.getfield 7, 3) := by decide +kernel
theorem d_MD_begin_17 : decode b_MD_begin 17 = .ok (.aload_n 0, 1) := by decide +kernel
theorem d_MD_begin_18 : decode b_MD_begin 18 = .ok (.getfield 68, 3) := by decide +kernel
theorem d_MD_begin_21 : decode b_MD_begin 21 = .ok (.baload, 1) := by decide +kernel
theorem d_MD_begin_22 : decode b_MD_begin 22 = .ok (.ifCond .ne 6, 3) := by decide +kernel
theorem d_MD_begin_25 : decode b_MD_begin 25 = .ok (.bipush (-2), 2) := by decide +kernel
theorem d_MD_begin_27 : decode b_MD_begin 27 = .ok (.ireturn, 1) := by decide +kernel
theorem d_MD_begin_28 : decode b_MD_begin 28 = .ok (.aload_n 0, 1) := by decide +kernel
theorem d_MD_begin_29 : decode b_MD_begin 29 = .ok (.getfield 131, 3) := by decide +kernel
theorem d_MD_begin_32 : decode b_MD_begin 32 = .ok (.aload_n 0, 1) := by decide +kernel
theorem d_MD_begin_33 : decode b_MD_begin 33 = .ok (.getfield 17, 3) := by decide +kernel
theorem d_MD_begin_36 : decode b_MD_begin 36 = .ok (.aload_n 0, 1) := by decide +kernel
theorem d_MD_begin_37 : decode b_MD_begin 37 = .ok (.getfield 68, 3) := by decide +kernel
theorem d_MD_begin_40 : decode b_MD_begin 40 = .ok (.iaload, 1) := by decide +kernel
theorem d_MD_begin_41 : decode b_MD_begin 41 = .ok (.if_icmp .le 6, 3) := by decide +kernel
theorem d_MD_begin_44 : decode b_MD_begin 44 = .ok (.bipush (-3), 2) := by decide +kernel
theorem d_MD_begin_46 : decode b_MD_begin 46 = .ok (.ireturn, 1) := by decide +kernel
theorem d_MD_begin_47 : decode b_MD_begin 47 = .ok (.aload_n 0, 1) := by decide +kernel
theorem d_MD_begin_48 : decode b_MD_begin 48 = .ok (.getfield 131, 3) := by decide +kernel
theorem d_MD_begin_51 : decode b_MD_begin 51 = .ok (.aload_n 0, 1) := by decide +kernel
theorem d_MD_begin_52 : decode b_MD_begin 52 = .ok (.getfield 17, 3) := by decide +kernel
theorem d_MD_begin_55 : decode b_MD_begin 55 = .ok (.aload_n 0, 1) := by decide +kernel
theorem d_MD_begin_56 : decode b_MD_begin 56 = .ok (.getfield 68, 3) := by decide +kernel
theorem d_MD_begin_59 : decode b_MD_begin 59 = .ok (.iaload, 1) := by decide +kernel
theorem d_MD_begin_60 : decode b_MD_begin 60 = .ok (.if_icmp .ge 6, 3) := by decide +kernel
theorem d_MD_begin_63 : decode b_MD_begin 63 = .ok (.bipush (-4), 2) := by decide +kernel
theorem d_MD_begin_65 : decode b_MD_begin 65 = .ok (.ireturn, 1) := by decide +kernel
theorem d_MD_begin_66 : decode b_MD_begin 66 = .ok (.aload_n 0, 1) := by decide +kernel
theorem d_MD_begin_67 : decode b_MD_begin 67 = .ok (.getfield 13, 3) := by decide +kernel
theorem d_MD_begin_70 : decode b_MD_begin 70 = .ok (.aload_n 0, 1) := by decide +kernel
theorem d_MD_begin_71 : decode b_MD_begin 71 = .ok (.getfield 68, 3) := by decide +kernel
theorem d_MD_begin_74 : decode b_MD_begin 74 = .ok (.iaload, 1) := by decide +kernel
theorem d_MD_begin_75 : decode b_MD_begin 75 = .ok (.bipush 10, 2) := by decide +kernel
theorem d_MD_begin_77 : decode b_MD_begin 77 = .ok (.if_icmp .ge 6, 3) := by decide +kernel
theorem d_MD_begin_80 : decode b_MD_begin 80 = .ok (.bipush (-5), 2) := by decide +kernel
theorem d_MD_begin_82 : decode b_MD_begin 82 = .ok (.ireturn, 1) := by decide +kernel
theorem d_MD_begin_83 : decode b_MD_begin 83 = .ok (.aload_n 0, 1) := by decide +kernel
theorem d_MD_begin_84 : decode b_MD_begin 84 = .ok (.getfield 13, 3) := by decide +kernel
theorem d_MD_begin_87 : decode b_MD_begin 87 = .ok (.aload_n 0, 1) := by decide +kernel
theorem d_MD_begin_88 : decode b_MD_begin 88 = .ok (.getfield 68, 3) := by decide +kernel
theorem d_MD_begin_91 : decode b_MD_begin 91 = .ok (.dup2, 1) := by decide +kernel
theorem d_MD_begin_92 : decode b_MD_begin 92 = .ok (.iaload, 1) := by decide +kernel
theorem d_MD_begin_93 : decode b_MD_begin 93 = .ok (.bipush 10, 2) := by decide +kernel
theorem d_MD_begin_95 : decode b_MD_begin 95 = .ok (.isub, 1) := by decide +kernel
theorem d_MD_begin_96 : decode b_MD_begin 96 = .ok (.iastore, 1) := by decide +kernel
theorem d_MD_begin_97 : decode b_MD_begin 97 = .ok (.aload_n 0, 1) := by decide +kernel
theorem d_MD_begin_98 : decode b_MD_begin 98 = .ok (.dup, 1) := by decide +kernel
theorem d_MD_begin_99 : decode b_MD_begin 99 = .ok (.getfield 134, 3) := by decide +kernel
theorem d_MD_begin_102 : decode b_MD_begin 102 = .ok (.bipush 10, 2) := by decide +kernel
theorem d_MD_begin_104 : decode b_MD_begin 104 = .ok (.iadd, 1) := by decide +kernel
theorem d_MD_begin_105 : decode b_MD_begin 105 = .ok (.putfield 134, 3) := by decide +kernel
theorem d_MD_begin_108 : decode b_MD_begin 108 = .ok (.aload_n 0, 1) := by decide +kernel
theorem d_MD_begin_109 : decode b_MD_begin 109 = .ok (.getfield 17, 3) := by decide +kernel
theorem d_MD_begin_112 : decode b_MD_begin 112 = .ok (.aload_n 0, 1) := by decide +kernel
theorem d_MD_begin_113 : decode b_MD_begin 113 = .ok (.getfield 68, 3) := by decide +kernel
theorem d_MD_begin_116 : decode b_MD_begin 116 = .ok (.dup2, 1) := by decide +kernel
theorem d_MD_begin_117 : decode b_MD_begin 117 = .ok (.iaload, 1) := by decide +kernel
theorem d_MD_begin_118 : decode b_MD_begin 118 = .ok (.iconst 1, 1) := by decide +kernel
theorem d_MD_begin_119 : decode b_MD_begin 119 = .ok (.iadd, 1) := by decide +kernel
theorem d_MD_begin_120 : decode b_MD_begin 120 = .ok (.iastore, 1) := by decide +kernel
theorem d_MD_begin_121 : decode b_MD_begin 121 = .ok (.iconst 0, 1) := by decide +kernel
theorem d_MD_begin_122 : decode b_MD_begin 122 = .ok (.ireturn, 1) := by decide +kernel
def MD_begin (x1 : Int32) (σ : ST) : Option (Int32 × ST) :=
  if x1 = 0 then (some ((-1 : Int32), σ))
  else (if 0 ≤ (gI σ 25) then (if (gI σ 25) < 0 ∨ 6 ≤ (gI σ 25).toNatClampNeg then none else
  if (gA σ 8 (gI σ 25).toNatClampNeg) = 0 then (some ((-2 : Int32), σ))
  else (if (gI σ 26) ≤ (gA σ 10 (gI σ 25).toNatClampNeg) then (if (gA σ 10 (gI σ 25).toNatClampNeg) ≤ (gI σ 26) then (if (10 : Int32) ≤ (gA σ 9 (gI σ 25).toNatClampNeg) then (nmS (sA σ 9 (gI σ 25).toNatClampNeg ((gA σ 9 (gI σ 25).toNatClampNeg) - (10 : Int32))) fun σ96 =>
  nmS (sI σ96 31 ((gI σ96 31) + (10 : Int32))) fun σ105 =>
  if (gI σ105 25) < 0 ∨ 6 ≤ (gI σ105 25).toNatClampNeg then none else
  nmS (sA σ105 10 (gI σ105 25).toNatClampNeg ((gA σ105 10 (gI σ105 25).toNatClampNeg) + (1 : Int32))) fun σ120 =>
  some ((0 : Int32), σ120))
  else (some ((-5 : Int32), σ)))
  else (some ((-4 : Int32), σ)))
  else (some ((-3 : Int32), σ))))
  else (some ((-1 : Int32), σ)))
set_option maxRecDepth 100000 in
set_option maxHeartbeats 4000000 in
theorem m_MD_begin (l : Launch) (D : va_G) (ad : Nat → Nat) (cs : Nat → ClassId) (eE : Nat × Nat) (x1 : Int32) (σ : ST) {res : Int32 × ST} (hf : MD_begin x1 σ = some res) : MS l y_MD_begin (Cond.code y_MD_begin b_MD_begin 2 r_MD_begin :: BIG) 0 0 0 0 (wfm ad cs) D (ttf cs) eE [.ref (ad 18), .int x1] σ (PI res.1 res.2) := by
  refine MS.of (cc := b_MD_begin) (maxL := 2) (ret := r_MD_begin) (by decide) rfl (Nat.le_of_ble_eq_true rfl) (loc := [(0, .ref (ad 18)), (1, .int x1)]) rfl (fun X C Rt => ?_)
  unfold MD_begin at hf
  refine j_iload_n C 1 rfl rfl d_MD_begin_0 ?_
  refine j_if_eq C d_MD_begin_1 rfl (fun c1 => ?_) (fun c1 => ?_)
  · have hf := o_it c1 hf
    refine j_iconst C (v := -1) (by decide) d_MD_begin_11 ?_
    have hf := Option.some.inj hf
    subst hf
    exact j_iret C Rt (Nat.zero_le _) (Nat.zero_le _) d_MD_begin_12 ⟨rfl, rfl⟩
  · have hf := o_if c1 hf
    refine j_aload_n C 0 rfl rfl d_MD_begin_4 ?_
    refine g_MD_me C (List.mem_cons_of_mem _ wd_4_42) d_MD_begin_5 ?_
    refine j_if_ge C d_MD_begin_8 rfl (fun c8 => ?_) (fun c8 => ?_)
    · have hf := o_it c8 hf
      refine j_aload_n C 0 rfl rfl d_MD_begin_13 ?_
      refine g_MD_exists C (List.mem_cons_of_mem _ wd_4_19) d_MD_begin_14 ?_
      refine j_aload_n C 0 rfl rfl d_MD_begin_17 ?_
      refine g_MD_me C (List.mem_cons_of_mem _ wd_4_42) d_MD_begin_18 ?_
      obtain ⟨g21, hf⟩ := o_gn hf
      refine la_m_exists C g21 d_MD_begin_21 ?_
      refine j_if_ne C d_MD_begin_22 rfl (fun c22 => ?_) (fun c22 => ?_)
      · have hf := o_if c22 hf
        refine j_aload_n C 0 rfl rfl d_MD_begin_28 ?_
        refine g_MD_myNumber C (List.mem_cons_of_mem _ wd_4_43) d_MD_begin_29 ?_
        refine j_aload_n C 0 rfl rfl d_MD_begin_32 ?_
        refine g_MD_numbers C (List.mem_cons_of_mem _ wd_4_21) d_MD_begin_33 ?_
        refine j_aload_n C 0 rfl rfl d_MD_begin_36 ?_
        refine g_MD_me C (List.mem_cons_of_mem _ wd_4_42) d_MD_begin_37 ?_
        refine la_m_numbers C g21 d_MD_begin_40 ?_
        refine j_icmp_le C d_MD_begin_41 rfl (fun c41 => ?_) (fun c41 => ?_)
        · have hf := o_it c41 hf
          refine j_aload_n C 0 rfl rfl d_MD_begin_47 ?_
          refine g_MD_myNumber C (List.mem_cons_of_mem _ wd_4_43) d_MD_begin_48 ?_
          refine j_aload_n C 0 rfl rfl d_MD_begin_51 ?_
          refine g_MD_numbers C (List.mem_cons_of_mem _ wd_4_21) d_MD_begin_52 ?_
          refine j_aload_n C 0 rfl rfl d_MD_begin_55 ?_
          refine g_MD_me C (List.mem_cons_of_mem _ wd_4_42) d_MD_begin_56 ?_
          refine la_m_numbers C g21 d_MD_begin_59 ?_
          refine j_icmp_ge C d_MD_begin_60 rfl (fun c60 => ?_) (fun c60 => ?_)
          · have hf := o_it c60 hf
            refine j_aload_n C 0 rfl rfl d_MD_begin_66 ?_
            refine g_MD_coins C (List.mem_cons_of_mem _ wd_4_20) d_MD_begin_67 ?_
            refine j_aload_n C 0 rfl rfl d_MD_begin_70 ?_
            refine g_MD_me C (List.mem_cons_of_mem _ wd_4_42) d_MD_begin_71 ?_
            refine la_m_coins C g21 d_MD_begin_74 ?_
            refine j_bipush C (v := 10) (by decide) d_MD_begin_75 ?_
            refine j_icmp_ge C d_MD_begin_77 rfl (fun c77 => ?_) (fun c77 => ?_)
            · have hf := o_it c77 hf
              refine j_aload_n C 0 rfl rfl d_MD_begin_83 ?_
              refine g_MD_coins C (List.mem_cons_of_mem _ wd_4_20) d_MD_begin_84 ?_
              refine j_aload_n C 0 rfl rfl d_MD_begin_87 ?_
              refine g_MD_me C (List.mem_cons_of_mem _ wd_4_42) d_MD_begin_88 ?_
              refine j_dup2 C rfl rfl d_MD_begin_91 ?_
              refine la_m_coins C g21 d_MD_begin_92 ?_
              refine j_bipush C (v := 10) (by decide) d_MD_begin_93 ?_
              refine j_isub C d_MD_begin_95 ?_
              obtain ⟨σ96, eσ96, hf⟩ := o_nmS hf
              refine sa_m_coins C g21 eσ96 d_MD_begin_96 ?_
              refine j_aload_n C 0 rfl rfl d_MD_begin_97 ?_
              refine j_dup C rfl d_MD_begin_98 ?_
              refine g_MD_burned C (List.mem_cons_of_mem _ wd_4_48) d_MD_begin_99 ?_
              refine j_bipush C (v := 10) (by decide) d_MD_begin_102 ?_
              refine j_iadd C d_MD_begin_104 ?_
              obtain ⟨σ105, eσ105, hf⟩ := o_nmS hf
              refine p_MD_burned C eσ105 (List.mem_cons_of_mem _ wd_4_48) d_MD_begin_105 ?_
              refine j_aload_n C 0 rfl rfl d_MD_begin_108 ?_
              refine g_MD_numbers C (List.mem_cons_of_mem _ wd_4_21) d_MD_begin_109 ?_
              refine j_aload_n C 0 rfl rfl d_MD_begin_112 ?_
              refine g_MD_me C (List.mem_cons_of_mem _ wd_4_42) d_MD_begin_113 ?_
              refine j_dup2 C rfl rfl d_MD_begin_116 ?_
              obtain ⟨g117, hf⟩ := o_gn hf
              refine la_m_numbers C g117 d_MD_begin_117 ?_
              refine j_iconst C (v := 1) (by decide) d_MD_begin_118 ?_
              refine j_iadd C d_MD_begin_119 ?_
              obtain ⟨σ120, eσ120, hf⟩ := o_nmS hf
              refine sa_m_numbers C g117 eσ120 d_MD_begin_120 ?_
              refine j_iconst C (v := 0) (by decide) d_MD_begin_121 ?_
              have hf := Option.some.inj hf
              subst hf
              exact j_iret C Rt (Nat.zero_le _) (Nat.zero_le _) d_MD_begin_122 ⟨rfl, rfl⟩
            · have hf := o_if c77 hf
              refine j_bipush C (v := -5) (by decide) d_MD_begin_80 ?_
              have hf := Option.some.inj hf
              subst hf
              exact j_iret C Rt (Nat.zero_le _) (Nat.zero_le _) d_MD_begin_82 ⟨rfl, rfl⟩
          · have hf := o_if c60 hf
            refine j_bipush C (v := -4) (by decide) d_MD_begin_63 ?_
            have hf := Option.some.inj hf
            subst hf
            exact j_iret C Rt (Nat.zero_le _) (Nat.zero_le _) d_MD_begin_65 ⟨rfl, rfl⟩
        · have hf := o_if c41 hf
          refine j_bipush C (v := -3) (by decide) d_MD_begin_44 ?_
          have hf := Option.some.inj hf
          subst hf
          exact j_iret C Rt (Nat.zero_le _) (Nat.zero_le _) d_MD_begin_46 ⟨rfl, rfl⟩
      · have hf := o_it c22 hf
        refine j_bipush C (v := -2) (by decide) d_MD_begin_25 ?_
        have hf := Option.some.inj hf
        subst hf
        exact j_iret C Rt (Nat.zero_le _) (Nat.zero_le _) d_MD_begin_27 ⟨rfl, rfl⟩
    · have hf := o_if c8 hf
      refine j_iconst C (v := -1) (by decide) d_MD_begin_11 ?_
      have hf := Option.some.inj hf
      subst hf
      exact j_iret C Rt (Nat.zero_le _) (Nat.zero_le _) d_MD_begin_12 ⟨rfl, rfl⟩
theorem d_MD_isAsset_0 : decode b_MD_isAsset 0 = .ok (.iload_n 0, 1) := by decide +kernel
theorem d_MD_isAsset_1 : decode b_MD_isAsset 1 = .ok (.ifCond .lt 13, 3) := by decide +kernel
theorem d_MD_isAsset_4 : decode b_MD_isAsset 4 = .ok (.iload_n 0, 1) := by decide +kernel
theorem d_MD_isAsset_5 : decode b_MD_isAsset 5 = .ok (.bipush 12, 2) := by decide +kernel
theorem d_MD_isAsset_7 : decode b_MD_isAsset 7 = .ok (.if_icmp .gt 7, 3) := by decide +kernel
theorem d_MD_isAsset_10 : decode b_MD_isAsset 10 = .ok (.iconst 1, 1) := by decide +kernel
theorem d_MD_isAsset_11 : decode b_MD_isAsset 11 = .ok (.goto 4, 3) := by decide +kernel
theorem d_MD_isAsset_14 : decode b_MD_isAsset 14 = .ok (.iconst 0, 1) := by decide +kernel
theorem d_MD_isAsset_15 : decode b_MD_isAsset 15 = .ok (.ireturn, 1) := by decide +kernel
def MD_isAsset (x0 : Int32) : Option (Int32) :=
  if x0 < 0 then (some (0 : Int32))
  else (if (12 : Int32) < x0 then (some (0 : Int32))
  else (some (1 : Int32)))
set_option maxRecDepth 100000 in
set_option maxHeartbeats 4000000 in
theorem m_MD_isAsset (l : Launch) (D : va_G) (ad : Nat → Nat) (cs : Nat → ClassId) (eE : Nat × Nat) (x0 : Int32) (σ : ST) {res : Int32} (hf : MD_isAsset x0 = some res) : MS l y_MD_isAsset (Cond.code y_MD_isAsset b_MD_isAsset 1 r_MD_isAsset :: BIG) 0 0 0 0 (wfm ad cs) D (ttf cs) eE [.int x0] σ (PI res σ) := by
  refine MS.of (cc := b_MD_isAsset) (maxL := 1) (ret := r_MD_isAsset) (by decide) rfl (Nat.le_of_ble_eq_true rfl) (loc := [(0, .int x0)]) rfl (fun X C Rt => ?_)
  unfold MD_isAsset at hf
  refine j_iload_n C 0 rfl rfl d_MD_isAsset_0 ?_
  refine j_if_lt C d_MD_isAsset_1 rfl (fun c1 => ?_) (fun c1 => ?_)
  · have hf := o_it c1 hf
    refine j_iconst C (v := 0) (by decide) d_MD_isAsset_14 ?_
    have hf := Option.some.inj hf
    subst hf
    exact j_zret C Rt (by decide) (Nat.zero_le _) (Nat.zero_le _) d_MD_isAsset_15 ⟨rfl, rfl⟩
  · have hf := o_if c1 hf
    refine j_iload_n C 0 rfl rfl d_MD_isAsset_4 ?_
    refine j_bipush C (v := 12) (by decide) d_MD_isAsset_5 ?_
    refine j_icmp_gt C d_MD_isAsset_7 rfl (fun c7 => ?_) (fun c7 => ?_)
    · have hf := o_it c7 hf
      refine j_iconst C (v := 0) (by decide) d_MD_isAsset_14 ?_
      have hf := Option.some.inj hf
      subst hf
      exact j_zret C Rt (by decide) (Nat.zero_le _) (Nat.zero_le _) d_MD_isAsset_15 ⟨rfl, rfl⟩
    · have hf := o_if c7 hf
      refine j_iconst C (v := 1) (by decide) d_MD_isAsset_10 ?_
      refine j_goto C d_MD_isAsset_11 rfl ?_
      have hf := Option.some.inj hf
      subst hf
      exact j_zret C Rt (by decide) (Nat.zero_le _) (Nat.zero_le _) d_MD_isAsset_15 ⟨rfl, rfl⟩
theorem d_MD_inBook_0 : decode b_MD_inBook 0 = .ok (.aload_n 0, 1) := by decide +kernel
theorem d_MD_inBook_1 : decode b_MD_inBook 1 = .ok (.getfield 38, 3) := by decide +kernel
theorem d_MD_inBook_4 : decode b_MD_inBook 4 = .ok (.iload_n 1, 1) := by decide +kernel
theorem d_MD_inBook_5 : decode b_MD_inBook 5 = .ok (.iaload, 1) := by decide +kernel
theorem d_MD_inBook_6 : decode b_MD_inBook 6 = .ok (.iload_n 2, 1) := by decide +kernel
theorem d_MD_inBook_7 : decode b_MD_inBook 7 = .ok (.if_icmp .ne 17, 3) := by decide +kernel
theorem d_MD_inBook_10 : decode b_MD_inBook 10 = .ok (.aload_n 0, 1) := by decide +kernel
theorem d_MD_inBook_11 : decode b_MD_inBook 11 = .ok (.getfield 41, 3) := by decide +kernel
theorem d_MD_inBook_14 : decode b_MD_inBook 14 = .ok (.iload_n 1, 1) := by decide +kernel
theorem d_MD_inBook_15 : decode b_MD_inBook 15 = .ok (.iaload, 1) := by decide +kernel
theorem d_MD_inBook_16 : decode b_MD_inBook 16 = .ok (.iload_n 3, 1) := by decide +kernel
theorem d_MD_inBook_17 : decode b_MD_inBook 17 = .ok (.if_icmp .ne 7, 3) := by decide +kernel
theorem d_MD_inBook_20 : decode b_MD_inBook 20 = .ok (.iconst 1, 1) := by decide +kernel
theorem d_MD_inBook_21 : decode b_MD_inBook 21 = .ok (.goto 4, 3) := by decide +kernel
theorem d_MD_inBook_24 : decode b_MD_inBook 24 = .ok (.iconst 0, 1) := by decide +kernel
theorem d_MD_inBook_25 : decode b_MD_inBook 25 = .ok (.ireturn, 1) := by decide +kernel
def MD_inBook (x1 : Int32) (x2 : Int32) (x3 : Int32) (σ : ST) : Option (Int32) :=
  if x1 < 0 ∨ 12 ≤ x1.toNatClampNeg then none else
  if (gA σ 17 x1.toNatClampNeg) = x2 then (if (gA σ 18 x1.toNatClampNeg) = x3 then (some (1 : Int32))
  else (some (0 : Int32)))
  else (some (0 : Int32))
set_option maxRecDepth 100000 in
set_option maxHeartbeats 4000000 in
theorem m_MD_inBook (l : Launch) (D : va_G) (ad : Nat → Nat) (cs : Nat → ClassId) (eE : Nat × Nat) (x1 : Int32) (x2 : Int32) (x3 : Int32) (σ : ST) {res : Int32} (hf : MD_inBook x1 x2 x3 σ = some res) : MS l y_MD_inBook (Cond.code y_MD_inBook b_MD_inBook 4 r_MD_inBook :: BIG) 0 0 0 0 (wfm ad cs) D (ttf cs) eE [.ref (ad 18), .int x1, .int x2, .int x3] σ (PI res σ) := by
  refine MS.of (cc := b_MD_inBook) (maxL := 4) (ret := r_MD_inBook) (by decide) rfl (Nat.le_of_ble_eq_true rfl) (loc := [(0, .ref (ad 18)), (1, .int x1), (2, .int x2), (3, .int x3)]) rfl (fun X C Rt => ?_)
  unfold MD_inBook at hf
  refine j_aload_n C 0 rfl rfl d_MD_inBook_0 ?_
  refine g_MD_wantsOf C (List.mem_cons_of_mem _ wd_4_30) d_MD_inBook_1 ?_
  refine j_iload_n C 1 rfl rfl d_MD_inBook_4 ?_
  obtain ⟨g5, hf⟩ := o_gn hf
  refine la_m_wantsOf C g5 d_MD_inBook_5 ?_
  refine j_iload_n C 2 rfl rfl d_MD_inBook_6 ?_
  refine j_icmp_ne C d_MD_inBook_7 rfl (fun c7 => ?_) (fun c7 => ?_)
  · have hf := o_if c7 hf
    refine j_iconst C (v := 0) (by decide) d_MD_inBook_24 ?_
    have hf := Option.some.inj hf
    subst hf
    exact j_zret C Rt (by decide) (Nat.zero_le _) (Nat.zero_le _) d_MD_inBook_25 ⟨rfl, rfl⟩
  · have hf := o_it c7 hf
    refine j_aload_n C 0 rfl rfl d_MD_inBook_10 ?_
    refine g_MD_givesOf C (List.mem_cons_of_mem _ wd_4_31) d_MD_inBook_11 ?_
    refine j_iload_n C 1 rfl rfl d_MD_inBook_14 ?_
    refine la_m_givesOf C g5 d_MD_inBook_15 ?_
    refine j_iload_n C 3 rfl rfl d_MD_inBook_16 ?_
    refine j_icmp_ne C d_MD_inBook_17 rfl (fun c17 => ?_) (fun c17 => ?_)
    · have hf := o_if c17 hf
      refine j_iconst C (v := 0) (by decide) d_MD_inBook_24 ?_
      have hf := Option.some.inj hf
      subst hf
      exact j_zret C Rt (by decide) (Nat.zero_le _) (Nat.zero_le _) d_MD_inBook_25 ⟨rfl, rfl⟩
    · have hf := o_it c17 hf
      refine j_iconst C (v := 1) (by decide) d_MD_inBook_20 ?_
      refine j_goto C d_MD_inBook_21 rfl ?_
      have hf := Option.some.inj hf
      subst hf
      exact j_zret C Rt (by decide) (Nat.zero_le _) (Nat.zero_le _) d_MD_inBook_25 ⟨rfl, rfl⟩
theorem d_MD_nextOf_0 : decode b_MD_nextOf 0 = .ok (.iconst (-1), 1) := by decide +kernel
theorem d_MD_nextOf_1 : decode b_MD_nextOf 1 = .ok (.istore 4, 2) := by decide +kernel
theorem d_MD_nextOf_3 : decode b_MD_nextOf 3 = .ok (.iconst 0, 1) := by decide +kernel
theorem d_MD_nextOf_4 : decode b_MD_nextOf 4 = .ok (.istore 5, 2) := by decide +kernel
theorem d_MD_nextOf_6 : decode b_MD_nextOf 6 = .ok (.iload 5, 2) := by decide +kernel
theorem d_MD_nextOf_8 : decode b_MD_nextOf 8 = .ok (.aload_n 0, 1) := by decide +kernel
theorem d_MD_nextOf_9 : decode b_MD_nextOf 9 = .ok (.getfield 110, 3) := by decide +kernel
theorem d_MD_nextOf_12 : decode b_MD_nextOf 12 = .ok (.if_icmp .ge 73, 3) := by decide +kernel
theorem d_MD_nextOf_15 : decode b_MD_nextOf 15 = .ok (.aload_n 0, 1) := by decide +kernel
theorem d_MD_nextOf_16 : decode b_MD_nextOf 16 = .ok (.iload 5, 2) := by decide +kernel
theorem d_MD_nextOf_18 : decode b_MD_nextOf 18 = .ok (.iload_n 1, 1) := by decide +kernel
theorem d_MD_nextOf_19 : decode b_MD_nextOf 19 = .ok (.iload_n 2, 1) := by decide +kernel
theorem d_MD_nextOf_20 : decode b_MD_nextOf 20 = .ok (.invokevirtual 158, 3) := by decide +kernel
theorem d_MD_nextOf_23 : decode b_MD_nextOf 23 = .ok (.ifCond .eq 28, 3) := by decide +kernel
theorem d_MD_nextOf_26 : decode b_MD_nextOf 26 = .ok (.aload_n 0, 1) := by decide +kernel
theorem d_MD_nextOf_27 : decode b_MD_nextOf 27 = .ok (.getfield 82, 3) := by decide +kernel
theorem d_MD_nextOf_30 : decode b_MD_nextOf 30 = .ok (.iload 5, 2) := by decide +kernel
theorem d_MD_nextOf_32 : decode b_MD_nextOf 32 = .ok (.baload, 1) := by decide +kernel
theorem d_MD_nextOf_33 : decode b_MD_nextOf 33 = .ok (.ifCond .ne 18, 3) := by decide +kernel
theorem d_MD_nextOf_36 : decode b_MD_nextOf 36 = .ok (.aload_n 0, 1) := by decide +kernel
theorem d_MD_nextOf_37 : decode b_MD_nextOf 37 = .ok (.getfield 35, 3) := by decide +kernel
theorem d_MD_nextOf_40 : decode b_MD_nextOf 40 = .ok (.iload 5, 2) := by decide +kernel
theorem d_MD_nextOf_42 : decode b_MD_nextOf 42 = .ok (.iaload, 1) := by decide +kernel
theorem d_MD_nextOf_43 : decode b_MD_nextOf 43 = .ok (.iload_n 3, 1) := by decide +kernel
theorem d_MD_nextOf_44 : decode b_MD_nextOf 44 = .ok (.if_icmp .eq 7, 3) := by decide +kernel
theorem d_MD_nextOf_47 : decode b_MD_nextOf 47 = .ok (.iconst 1, 1) := by decide +kernel
theorem d_MD_nextOf_48 : decode b_MD_nextOf 48 = .ok (.goto 4, 3) := by decide +kernel
theorem d_MD_nextOf_51 : decode b_MD_nextOf 51 = .ok (.iconst 0, 1) := by decide +kernel
theorem d_MD_nextOf_52 : decode b_MD_nextOf 52 = .ok (.istore 6, 2) := by decide +kernel
theorem d_MD_nextOf_54 : decode b_MD_nextOf 54 = .ok (.iload 6, 2) := by decide +kernel
theorem d_MD_nextOf_56 : decode b_MD_nextOf 56 = .ok (.ifCond .eq 23, 3) := by decide +kernel
theorem d_MD_nextOf_59 : decode b_MD_nextOf 59 = .ok (.iload 4, 2) := by decide +kernel
theorem d_MD_nextOf_61 : decode b_MD_nextOf 61 = .ok (.ifCond .lt 14, 3) := by decide +kernel
theorem d_MD_nextOf_64 : decode b_MD_nextOf 64 = .ok (.aload_n 0, 1) := by decide +kernel
theorem d_MD_nextOf_65 : decode b_MD_nextOf 65 = .ok (.iload 5, 2) := by decide +kernel
theorem d_MD_nextOf_67 : decode b_MD_nextOf 67 = .ok (.iload 4, 2) := by decide +kernel
theorem d_MD_nextOf_69 : decode b_MD_nextOf 69 = .ok (.invokevirtual 162, 3) := by decide +kernel
theorem d_MD_nextOf_72 : decode b_MD_nextOf 72 = .ok (.ifCond .eq 7, 3) := by decide +kernel
theorem d_MD_nextOf_75 : decode b_MD_nextOf 75 = .ok (.iload 5, 2) := by decide +kernel
theorem d_MD_nextOf_77 : decode b_MD_nextOf 77 = .ok (.istore 4, 2) := by decide +kernel
theorem d_MD_nextOf_79 : decode b_MD_nextOf 79 = .ok (.iinc 5 1, 3) := by decide +kernel
theorem d_MD_nextOf_82 : decode b_MD_nextOf 82 = .ok (.goto (-76), 3) := by decide +kernel
theorem d_MD_nextOf_85 : decode b_MD_nextOf 85 = .ok (.iload 4, 2) := by decide +kernel
theorem d_MD_nextOf_87 : decode b_MD_nextOf 87 = .ok (.ireturn, 1) := by decide +kernel
def MD_nextOf_c52 (kb6 : Int32 → Int32 → Int32 → Int32 → Int32 → ST → Option (Int32)) (x1 : Int32) (x2 : Int32) (x3 : Int32) (x4 : Int32) (x5 : Int32) (s0 : Int32) (σ : ST) : Option (Int32) :=
  if s0 = 0 then (kb6 x1 x2 x3 x4 (x5 + 1) σ)
  else (if x4 < 0 then (kb6 x1 x2 x3 x5 (x5 + 1) σ)
  else (bd1 (MD_ahead x5 x4 σ) fun r69 =>
  if r69 = 0 then (kb6 x1 x2 x3 x4 (x5 + 1) σ)
  else (kb6 x1 x2 x3 x5 (x5 + 1) σ)))
set_option maxRecDepth 100000 in
set_option maxHeartbeats 4000000 in
theorem w_MD_nextOf_c52 {X : JX} (C : JC X l D (ttf cs) eE b_MD_nextOf "TollLedgerModel" 7 (Cond.code y_MD_nextOf b_MD_nextOf 7 r_MD_nextOf :: BIG) 1 26 0 0) {σ : ST} {res : Int32} (Rt : JR X (wfm ad cs) 0 0 (PI res σ) r_MD_nextOf "nextOf") {kb6 : Int32 → Int32 → Int32 → Int32 → Int32 → ST → Option (Int32)} (hk6 : ∀ (x1 : Int32) (x2 : Int32) (x3 : Int32) (x4 : Int32) (x5 : Int32), kb6 x1 x2 x3 x4 x5 σ = some res → J (wfm ad cs) X 7 0 0 σ 6 [(0, .ref (ad 18)), (1, .int x1), (2, .int x2), (3, .int x3), (4, .int x4), (5, .int x5)] []) (x1 : Int32) (x2 : Int32) (x3 : Int32) (x4 : Int32) (x5 : Int32) (s0 : Int32) (hf : MD_nextOf_c52 kb6 x1 x2 x3 x4 x5 s0 σ = some res) : J (wfm ad cs) X 7 0 0 σ 52 [(0, .ref (ad 18)), (1, .int x1), (2, .int x2), (3, .int x3), (4, .int x4), (5, .int x5)] [.int s0] := by
  unfold MD_nextOf_c52 at hf
  refine j_istore C (by decide) (loc' := [(6, .int s0), (0, .ref (ad 18)), (1, .int x1), (2, .int x2), (3, .int x3), (4, .int x4), (5, .int x5)]) rfl d_MD_nextOf_52 ?_
  refine j_iload C 0 rfl d_MD_nextOf_54 ?_
  refine j_if_eq C d_MD_nextOf_56 rfl (fun c56 => ?_) (fun c56 => ?_)
  · have hf := o_it c56 hf
    refine j_iinc C 6 rfl (v := (x5 + 1)) (inc_p1 _) (by decide) (loc' := [(5, .int (x5 + 1)), (6, .int s0), (0, .ref (ad 18)), (1, .int x1), (2, .int x2), (3, .int x3), (4, .int x4)]) rfl d_MD_nextOf_79 ?_
    refine j_goto C d_MD_nextOf_82 rfl ?_
    refine j_sub [2, 3, 4, 5, 6, 0] rfl ?_
    exact hk6 x1 x2 x3 x4 (x5 + 1) hf
  · have hf := o_if c56 hf
    refine j_iload C 5 rfl d_MD_nextOf_59 ?_
    refine j_if_lt C d_MD_nextOf_61 rfl (fun c61 => ?_) (fun c61 => ?_)
    · have hf := o_it c61 hf
      refine j_iload C 6 rfl d_MD_nextOf_75 ?_
      refine j_istore C (by decide) (loc' := [(4, .int x5), (6, .int s0), (0, .ref (ad 18)), (1, .int x1), (2, .int x2), (3, .int x3), (5, .int x5)]) rfl d_MD_nextOf_77 ?_
      refine j_iinc C 6 rfl (v := (x5 + 1)) (inc_p1 _) (by decide) (loc' := [(5, .int (x5 + 1)), (4, .int x5), (6, .int s0), (0, .ref (ad 18)), (1, .int x1), (2, .int x2), (3, .int x3)]) rfl d_MD_nextOf_79 ?_
      refine j_goto C d_MD_nextOf_82 rfl ?_
      refine j_sub [3, 4, 5, 6, 1, 0] rfl ?_
      exact hk6 x1 x2 x3 x5 (x5 + 1) hf
    · have hf := o_if c61 hf
      refine j_aload_n C 1 rfl rfl d_MD_nextOf_64 ?_
      refine j_iload C 6 rfl d_MD_nextOf_65 ?_
      refine j_iload C 5 rfl d_MD_nextOf_67 ?_
      obtain ⟨r69, h69, hf⟩ := o_b1 hf
      refine j_callV (ci := 10) (Cn := "TollLedgerModel") (T := T_MD) (N := 39) C [.int x5, .int x4] [] (m_MD_ahead _ _ _ _ _ x5 x4 σ h69) (gdV wd_4_225 wd_4_227 wp_27 wd_1_11 wc_MD_ahead) hy_MD_ahead rfl ⟨18, rfl⟩ rfl rfl (by decide) (by decide) (by decide) (by decide) (Nat.le_of_ble_eq_true rfl) d_MD_nextOf_69 (j_kI (r := r69) (σ1 := σ) ?_)
      refine j_if_eq C d_MD_nextOf_72 rfl (fun c72 => ?_) (fun c72 => ?_)
      · have hf := o_it c72 hf
        refine j_iinc C 6 rfl (v := (x5 + 1)) (inc_p1 _) (by decide) (loc' := [(5, .int (x5 + 1)), (6, .int s0), (0, .ref (ad 18)), (1, .int x1), (2, .int x2), (3, .int x3), (4, .int x4)]) rfl d_MD_nextOf_79 ?_
        refine j_goto C d_MD_nextOf_82 rfl ?_
        refine j_sub [2, 3, 4, 5, 6, 0] rfl ?_
        exact hk6 x1 x2 x3 x4 (x5 + 1) hf
      · have hf := o_if c72 hf
        refine j_iload C 6 rfl d_MD_nextOf_75 ?_
        refine j_istore C (by decide) (loc' := [(4, .int x5), (6, .int s0), (0, .ref (ad 18)), (1, .int x1), (2, .int x2), (3, .int x3), (5, .int x5)]) rfl d_MD_nextOf_77 ?_
        refine j_iinc C 6 rfl (v := (x5 + 1)) (inc_p1 _) (by decide) (loc' := [(5, .int (x5 + 1)), (4, .int x5), (6, .int s0), (0, .ref (ad 18)), (1, .int x1), (2, .int x2), (3, .int x3)]) rfl d_MD_nextOf_79 ?_
        refine j_goto C d_MD_nextOf_82 rfl ?_
        refine j_sub [3, 4, 5, 6, 1, 0] rfl ?_
        exact hk6 x1 x2 x3 x5 (x5 + 1) hf
def MD_nextOf_b6 (kb6 : Int32 → Int32 → Int32 → Int32 → Int32 → ST → Option (Int32)) (x1 : Int32) (x2 : Int32) (x3 : Int32) (x4 : Int32) (x5 : Int32) (σ : ST) : Option (Int32) :=
  if (gI σ 21) ≤ x5 then (some x4)
  else (bd1 (MD_inBook x5 x1 x2 σ) fun r20 =>
  if r20 = 0 then (MD_nextOf_c52 kb6 x1 x2 x3 x4 x5 (0 : Int32) σ)
  else (if x5 < 0 ∨ 12 ≤ x5.toNatClampNeg then none else
  if (gA σ 29 x5.toNatClampNeg) = 0 then (if (gA σ 16 x5.toNatClampNeg) = x3 then (MD_nextOf_c52 kb6 x1 x2 x3 x4 x5 (0 : Int32) σ)
  else (MD_nextOf_c52 kb6 x1 x2 x3 x4 x5 (1 : Int32) σ))
  else (MD_nextOf_c52 kb6 x1 x2 x3 x4 x5 (0 : Int32) σ)))
set_option maxRecDepth 100000 in
set_option maxHeartbeats 4000000 in
theorem w_MD_nextOf_b6 {X : JX} (C : JC X l D (ttf cs) eE b_MD_nextOf "TollLedgerModel" 7 (Cond.code y_MD_nextOf b_MD_nextOf 7 r_MD_nextOf :: BIG) 1 26 0 0) {σ : ST} {res : Int32} (Rt : JR X (wfm ad cs) 0 0 (PI res σ) r_MD_nextOf "nextOf") {kb6 : Int32 → Int32 → Int32 → Int32 → Int32 → ST → Option (Int32)} (hk6 : ∀ (x1 : Int32) (x2 : Int32) (x3 : Int32) (x4 : Int32) (x5 : Int32), kb6 x1 x2 x3 x4 x5 σ = some res → J (wfm ad cs) X 7 0 0 σ 6 [(0, .ref (ad 18)), (1, .int x1), (2, .int x2), (3, .int x3), (4, .int x4), (5, .int x5)] []) (x1 : Int32) (x2 : Int32) (x3 : Int32) (x4 : Int32) (x5 : Int32) (hf : MD_nextOf_b6 kb6 x1 x2 x3 x4 x5 σ = some res) : J (wfm ad cs) X 7 0 0 σ 6 [(0, .ref (ad 18)), (1, .int x1), (2, .int x2), (3, .int x3), (4, .int x4), (5, .int x5)] [] := by
  unfold MD_nextOf_b6 at hf
  refine j_iload C 5 rfl d_MD_nextOf_6 ?_
  refine j_aload_n C 0 rfl rfl d_MD_nextOf_8 ?_
  refine g_MD_offers C (List.mem_cons_of_mem _ wd_4_26) d_MD_nextOf_9 ?_
  refine j_icmp_ge C d_MD_nextOf_12 rfl (fun c12 => ?_) (fun c12 => ?_)
  · have hf := o_it c12 hf
    refine j_iload C 4 rfl d_MD_nextOf_85 ?_
    have hf := Option.some.inj hf
    subst hf
    exact j_iret C Rt (Nat.zero_le _) (Nat.zero_le _) d_MD_nextOf_87 ⟨rfl, rfl⟩
  · have hf := o_if c12 hf
    refine j_aload_n C 0 rfl rfl d_MD_nextOf_15 ?_
    refine j_iload C 5 rfl d_MD_nextOf_16 ?_
    refine j_iload_n C 1 rfl rfl d_MD_nextOf_18 ?_
    refine j_iload_n C 2 rfl rfl d_MD_nextOf_19 ?_
    obtain ⟨r20, h20, hf⟩ := o_b1 hf
    refine j_callV (ci := 10) (Cn := "TollLedgerModel") (T := T_MD) (N := 39) C [.int x5, .int x1, .int x2] [] (m_MD_inBook _ _ _ _ _ x5 x1 x2 σ h20) (gdV wd_4_221 wd_4_223 wp_26 wd_1_11 wc_MD_inBook) hy_MD_inBook rfl ⟨18, rfl⟩ rfl rfl (by decide) (by decide) (by decide) (by decide) (Nat.le_of_ble_eq_true rfl) d_MD_nextOf_20 (j_kI (r := r20) (σ1 := σ) ?_)
    refine j_if_eq C d_MD_nextOf_23 rfl (fun c23 => ?_) (fun c23 => ?_)
    · have hf := o_it c23 hf
      refine j_iconst C (v := 0) (by decide) d_MD_nextOf_51 ?_
      exact w_MD_nextOf_c52 C Rt hk6 x1 x2 x3 x4 x5 (0 : Int32) hf
    · have hf := o_if c23 hf
      refine j_aload_n C 0 rfl rfl d_MD_nextOf_26 ?_
      refine g_MD_seen C (List.mem_cons_of_mem _ wd_4_51) d_MD_nextOf_27 ?_
      refine j_iload C 5 rfl d_MD_nextOf_30 ?_
      obtain ⟨g32, hf⟩ := o_gn hf
      refine la_m_seen C g32 d_MD_nextOf_32 ?_
      refine j_if_ne C d_MD_nextOf_33 rfl (fun c33 => ?_) (fun c33 => ?_)
      · have hf := o_if c33 hf
        refine j_iconst C (v := 0) (by decide) d_MD_nextOf_51 ?_
        exact w_MD_nextOf_c52 C Rt hk6 x1 x2 x3 x4 x5 (0 : Int32) hf
      · have hf := o_it c33 hf
        refine j_aload_n C 0 rfl rfl d_MD_nextOf_36 ?_
        refine g_MD_ownerOf C (List.mem_cons_of_mem _ wd_4_29) d_MD_nextOf_37 ?_
        refine j_iload C 5 rfl d_MD_nextOf_40 ?_
        refine la_m_ownerOf C g32 d_MD_nextOf_42 ?_
        refine j_iload_n C 3 rfl rfl d_MD_nextOf_43 ?_
        refine j_icmp_eq C d_MD_nextOf_44 rfl (fun c44 => ?_) (fun c44 => ?_)
        · have hf := o_it c44 hf
          refine j_iconst C (v := 0) (by decide) d_MD_nextOf_51 ?_
          exact w_MD_nextOf_c52 C Rt hk6 x1 x2 x3 x4 x5 (0 : Int32) hf
        · have hf := o_if c44 hf
          refine j_iconst C (v := 1) (by decide) d_MD_nextOf_47 ?_
          refine j_goto C d_MD_nextOf_48 rfl ?_
          exact w_MD_nextOf_c52 C Rt hk6 x1 x2 x3 x4 x5 (1 : Int32) hf
def MD_nextOf_L6 : Nat → Int32 → Int32 → Int32 → Int32 → Int32 → ST → Option (Int32)
  | 0, _, _, _, _, _, _ => none
  | N + 1, x1, x2, x3, x4, x5, σ => MD_nextOf_b6 (fun x1 x2 x3 x4 x5 σ => MD_nextOf_L6 N x1 x2 x3 x4 x5 σ) x1 x2 x3 x4 x5 σ
theorem w_MD_nextOf_L6 {X : JX} (C : JC X l D (ttf cs) eE b_MD_nextOf "TollLedgerModel" 7 (Cond.code y_MD_nextOf b_MD_nextOf 7 r_MD_nextOf :: BIG) 1 26 0 0) {σ : ST} {res : Int32} (Rt : JR X (wfm ad cs) 0 0 (PI res σ) r_MD_nextOf "nextOf")  (N : Nat) (x1 : Int32) (x2 : Int32) (x3 : Int32) (x4 : Int32) (x5 : Int32) (hf : MD_nextOf_L6 N x1 x2 x3 x4 x5 σ = some res) : J (wfm ad cs) X 7 0 0 σ 6 [(0, .ref (ad 18)), (1, .int x1), (2, .int x2), (3, .int x3), (4, .int x4), (5, .int x5)] [] := by
  induction N generalizing x1 x2 x3 x4 x5 with
  | zero => exact nomatch hf
  | succ N ih => exact w_MD_nextOf_b6 C Rt  (fun x1 x2 x3 x4 x5 h => ih x1 x2 x3 x4 x5 h) x1 x2 x3 x4 x5 hf
def MD_nextOf (x1 : Int32) (x2 : Int32) (x3 : Int32) (σ : ST) : Option (Int32) :=
  MD_nextOf_L6 FU x1 x2 x3 (-1 : Int32) (0 : Int32) σ
set_option maxRecDepth 100000 in
set_option maxHeartbeats 4000000 in
theorem m_MD_nextOf (l : Launch) (D : va_G) (ad : Nat → Nat) (cs : Nat → ClassId) (eE : Nat × Nat) (x1 : Int32) (x2 : Int32) (x3 : Int32) (σ : ST) {res : Int32} (hf : MD_nextOf x1 x2 x3 σ = some res) : MS l y_MD_nextOf (Cond.code y_MD_nextOf b_MD_nextOf 7 r_MD_nextOf :: BIG) 1 26 0 0 (wfm ad cs) D (ttf cs) eE [.ref (ad 18), .int x1, .int x2, .int x3] σ (PI res σ) := by
  refine MS.of (cc := b_MD_nextOf) (maxL := 7) (ret := r_MD_nextOf) (by decide) rfl (Nat.le_of_ble_eq_true rfl) (loc := [(0, .ref (ad 18)), (1, .int x1), (2, .int x2), (3, .int x3)]) rfl (fun X C Rt => ?_)
  unfold MD_nextOf at hf
  refine j_iconst C (v := -1) (by decide) d_MD_nextOf_0 ?_
  refine j_istore C (by decide) (loc' := [(4, .int (-1 : Int32)), (0, .ref (ad 18)), (1, .int x1), (2, .int x2), (3, .int x3)]) rfl d_MD_nextOf_1 ?_
  refine j_iconst C (v := 0) (by decide) d_MD_nextOf_3 ?_
  refine j_istore C (by decide) (loc' := [(5, .int (0 : Int32)), (4, .int (-1 : Int32)), (0, .ref (ad 18)), (1, .int x1), (2, .int x2), (3, .int x3)]) rfl d_MD_nextOf_4 ?_
  refine j_sub [2, 3, 4, 5, 1, 0] rfl ?_
  exact w_MD_nextOf_L6 C Rt  FU x1 x2 x3 (-1 : Int32) (0 : Int32) hf
theorem d_MD_book_0 : decode b_MD_book 0 = .ok (.iload_n 1, 1) := by decide +kernel
theorem d_MD_book_1 : decode b_MD_book 1 = .ok (.invokestatic 140, 3) := by decide +kernel
theorem d_MD_book_4 : decode b_MD_book 4 = .ok (.ifCond .eq 15, 3) := by decide +kernel
theorem d_MD_book_7 : decode b_MD_book 7 = .ok (.iload_n 2, 1) := by decide +kernel
theorem d_MD_book_8 : decode b_MD_book 8 = .ok (.invokestatic 140, 3) := by decide +kernel
theorem d_MD_book_11 : decode b_MD_book 11 = .ok (.ifCond .eq 8, 3) := by decide +kernel
theorem d_MD_book_14 : decode b_MD_book 14 = .ok (.iload_n 3, 1) := by decide +kernel
theorem d_MD_book_15 : decode b_MD_book 15 = .ok (.iconst (-1), 1) := by decide +kernel
theorem d_MD_book_16 : decode b_MD_book 16 = .ok (.if_icmp .ge 5, 3) := by decide +kernel
theorem d_MD_book_19 : decode b_MD_book 19 = .ok (.iconst (-1), 1) := by decide +kernel
theorem d_MD_book_20 : decode b_MD_book 20 = .ok (.ireturn, 1) := by decide +kernel
theorem d_MD_book_21 : decode b_MD_book 21 = .ok (.iconst 0, 1) := by decide +kernel
theorem d_MD_book_22 : decode b_MD_book 22 = .ok (.istore 4, 2) := by decide +kernel
theorem d_MD_book_24 : decode b_MD_book 24 = .ok (.iload 4, 2) := by decide +kernel
theorem d_MD_book_26 : decode b_MD_book 26 = .ok (.bipush 12, 2) := by decide +kernel
theorem d_MD_book_28 : decode b_MD_book 28 = .ok (.if_icmp .ge 17, 3) := by decide +kernel
theorem d_MD_book_31 : decode b_MD_book 31 = .ok (.aload_n 0, 1) := by decide +kernel
theorem d_MD_book_32 : decode b_MD_book 32 = .ok (.getfield 82, 3) := by decide +kernel
theorem d_MD_book_35 : decode b_MD_book 35 = .ok (.iload 4, 2) := by decide +kernel
theorem d_MD_book_37 : decode b_MD_book 37 = .ok (.iconst 0, 1) := by decide +kernel
theorem d_MD_book_38 : decode b_MD_book 38 = .ok (.bastore, 1) := by decide +kernel
theorem d_MD_book_39 : decode b_MD_book 39 = .ok (.iinc 4 1, 3) := by decide +kernel
theorem d_MD_book_42 : decode b_MD_book 42 = .ok (.goto (-18), 3) := by decide +kernel
theorem d_MD_book_45 : decode b_MD_book 45 = .ok (.iconst 0, 1) := by decide +kernel
theorem d_MD_book_46 : decode b_MD_book 46 = .ok (.istore 4, 2) := by decide +kernel
theorem d_MD_book_48 : decode b_MD_book 48 = .ok (.aload_n 0, 1) := by decide +kernel
theorem d_MD_book_49 : decode b_MD_book 49 = .ok (.iload_n 1, 1) := by decide +kernel
theorem d_MD_book_50 : decode b_MD_book 50 = .ok (.iload_n 2, 1) := by decide +kernel
theorem d_MD_book_51 : decode b_MD_book 51 = .ok (.iconst (-1), 1) := by decide +kernel
theorem d_MD_book_52 : decode b_MD_book 52 = .ok (.invokevirtual 183, 3) := by decide +kernel
theorem d_MD_book_55 : decode b_MD_book 55 = .ok (.istore 5, 2) := by decide +kernel
theorem d_MD_book_57 : decode b_MD_book 57 = .ok (.iload 5, 2) := by decide +kernel
theorem d_MD_book_59 : decode b_MD_book 59 = .ok (.ifCond .lt 40, 3) := by decide +kernel
theorem d_MD_book_62 : decode b_MD_book 62 = .ok (.iload 4, 2) := by decide +kernel
theorem d_MD_book_64 : decode b_MD_book 64 = .ok (.iload_n 3, 1) := by decide +kernel
theorem d_MD_book_65 : decode b_MD_book 65 = .ok (.if_icmp .ne 11, 3) := by decide +kernel
theorem d_MD_book_68 : decode b_MD_book 68 = .ok (.aload_n 0, 1) := by decide +kernel
theorem d_MD_book_69 : decode b_MD_book 69 = .ok (.getfield 32, 3) := by decide +kernel
theorem d_MD_book_72 : decode b_MD_book 72 = .ok (.iload 5, 2) := by decide +kernel
theorem d_MD_book_74 : decode b_MD_book 74 = .ok (.iaload, 1) := by decide +kernel
theorem d_MD_book_75 : decode b_MD_book 75 = .ok (.ireturn, 1) := by decide +kernel
theorem d_MD_book_76 : decode b_MD_book 76 = .ok (.aload_n 0, 1) := by decide +kernel
theorem d_MD_book_77 : decode b_MD_book 77 = .ok (.getfield 82, 3) := by decide +kernel
theorem d_MD_book_80 : decode b_MD_book 80 = .ok (.iload 5, 2) := by decide +kernel
theorem d_MD_book_82 : decode b_MD_book 82 = .ok (.iconst 1, 1) := by decide +kernel
theorem d_MD_book_83 : decode b_MD_book 83 = .ok (.bastore, 1) := by decide +kernel
theorem d_MD_book_84 : decode b_MD_book 84 = .ok (.iinc 4 1, 3) := by decide +kernel
theorem d_MD_book_87 : decode b_MD_book 87 = .ok (.aload_n 0, 1) := by decide +kernel
theorem d_MD_book_88 : decode b_MD_book 88 = .ok (.iload_n 1, 1) := by decide +kernel
theorem d_MD_book_89 : decode b_MD_book 89 = .ok (.iload_n 2, 1) := by decide +kernel
theorem d_MD_book_90 : decode b_MD_book 90 = .ok (.iconst (-1), 1) := by decide +kernel
theorem d_MD_book_91 : decode b_MD_book 91 = .ok (.invokevirtual 183, 3) := by decide +kernel
theorem d_MD_book_94 : decode b_MD_book 94 = .ok (.istore 5, 2) := by decide +kernel
theorem d_MD_book_96 : decode b_MD_book 96 = .ok (.goto (-39), 3) := by decide +kernel
theorem d_MD_book_99 : decode b_MD_book 99 = .ok (.iload_n 3, 1) := by decide +kernel
theorem d_MD_book_100 : decode b_MD_book 100 = .ok (.iconst (-1), 1) := by decide +kernel
theorem d_MD_book_101 : decode b_MD_book 101 = .ok (.if_icmp .ne 8, 3) := by decide +kernel
theorem d_MD_book_104 : decode b_MD_book 104 = .ok (.iload 4, 2) := by decide +kernel
theorem d_MD_book_106 : decode b_MD_book 106 = .ok (.goto 4, 3) := by decide +kernel
theorem d_MD_book_109 : decode b_MD_book 109 = .ok (.iconst (-1), 1) := by decide +kernel
theorem d_MD_book_110 : decode b_MD_book 110 = .ok (.ireturn, 1) := by decide +kernel
def MD_book_b57 (kb57 : Int32 → Int32 → Int32 → Int32 → Int32 → ST → Option (Int32 × ST)) (x1 : Int32) (x2 : Int32) (x3 : Int32) (x4 : Int32) (x5 : Int32) (σ : ST) : Option (Int32 × ST) :=
  if x5 < 0 then (if x3 = (-1 : Int32) then (some (x4, σ))
  else (some ((-1 : Int32), σ)))
  else (if x4 = x3 then (if x5 < 0 ∨ 12 ≤ x5.toNatClampNeg then none else
  some ((gA σ 15 x5.toNatClampNeg), σ))
  else (if x5 < 0 ∨ 12 ≤ x5.toNatClampNeg then none else
  nmS (sA σ 29 x5.toNatClampNeg (1 : Int32)) fun σ83 =>
  bd1 (MD_nextOf x1 x2 (-1 : Int32) σ83) fun r91 =>
  kb57 x1 x2 x3 (x4 + 1) r91 σ83))
set_option maxRecDepth 100000 in
set_option maxHeartbeats 4000000 in
theorem w_MD_book_b57 {X : JX} (C : JC X l D (ttf cs) eE b_MD_book "TollLedgerModel" 6 (Cond.code y_MD_book b_MD_book 6 r_MD_book :: BIG) 2 52 0 0) {res : Int32 × ST} (Rt : JR X (wfm ad cs) 0 0 (PI res.1 res.2) r_MD_book "book") {kb57 : Int32 → Int32 → Int32 → Int32 → Int32 → ST → Option (Int32 × ST)} (hk57 : ∀ (x1 : Int32) (x2 : Int32) (x3 : Int32) (x4 : Int32) (x5 : Int32) (σ : ST), kb57 x1 x2 x3 x4 x5 σ = some res → J (wfm ad cs) X 6 0 0 σ 57 [(0, .ref (ad 18)), (1, .int x1), (2, .int x2), (3, .int x3), (4, .int x4), (5, .int x5)] []) (x1 : Int32) (x2 : Int32) (x3 : Int32) (x4 : Int32) (x5 : Int32) (σ : ST) (hf : MD_book_b57 kb57 x1 x2 x3 x4 x5 σ = some res) : J (wfm ad cs) X 6 0 0 σ 57 [(0, .ref (ad 18)), (1, .int x1), (2, .int x2), (3, .int x3), (4, .int x4), (5, .int x5)] [] := by
  unfold MD_book_b57 at hf
  refine j_iload C 5 rfl d_MD_book_57 ?_
  refine j_if_lt C d_MD_book_59 rfl (fun c59 => ?_) (fun c59 => ?_)
  · have hf := o_it c59 hf
    refine j_iload_n C 3 rfl rfl d_MD_book_99 ?_
    refine j_iconst C (v := -1) (by decide) d_MD_book_100 ?_
    refine j_icmp_ne C d_MD_book_101 rfl (fun c101 => ?_) (fun c101 => ?_)
    · have hf := o_if c101 hf
      refine j_iconst C (v := -1) (by decide) d_MD_book_109 ?_
      have hf := Option.some.inj hf
      subst hf
      exact j_iret C Rt (Nat.zero_le _) (Nat.zero_le _) d_MD_book_110 ⟨rfl, rfl⟩
    · have hf := o_it c101 hf
      refine j_iload C 4 rfl d_MD_book_104 ?_
      refine j_goto C d_MD_book_106 rfl ?_
      have hf := Option.some.inj hf
      subst hf
      exact j_iret C Rt (Nat.zero_le _) (Nat.zero_le _) d_MD_book_110 ⟨rfl, rfl⟩
  · have hf := o_if c59 hf
    refine j_iload C 4 rfl d_MD_book_62 ?_
    refine j_iload_n C 3 rfl rfl d_MD_book_64 ?_
    refine j_icmp_ne C d_MD_book_65 rfl (fun c65 => ?_) (fun c65 => ?_)
    · have hf := o_if c65 hf
      refine j_aload_n C 0 rfl rfl d_MD_book_76 ?_
      refine g_MD_seen C (List.mem_cons_of_mem _ wd_4_51) d_MD_book_77 ?_
      refine j_iload C 5 rfl d_MD_book_80 ?_
      refine j_iconst C (v := 1) (by decide) d_MD_book_82 ?_
      obtain ⟨g83, hf⟩ := o_gn hf
      obtain ⟨σ83, eσ83, hf⟩ := o_nmS hf
      refine sa_m_seen C (by decide) g83 eσ83 d_MD_book_83 ?_
      refine j_iinc C 4 rfl (v := (x4 + 1)) (inc_p1 _) (by decide) (loc' := [(4, .int (x4 + 1)), (0, .ref (ad 18)), (1, .int x1), (2, .int x2), (3, .int x3), (5, .int x5)]) rfl d_MD_book_84 ?_
      refine j_aload_n C 1 rfl rfl d_MD_book_87 ?_
      refine j_iload_n C 2 rfl rfl d_MD_book_88 ?_
      refine j_iload_n C 3 rfl rfl d_MD_book_89 ?_
      refine j_iconst C (v := -1) (by decide) d_MD_book_90 ?_
      obtain ⟨r91, h91, hf⟩ := o_b1 hf
      refine j_callV (ci := 10) (Cn := "TollLedgerModel") (T := T_MD) (N := 39) C [.int x1, .int x2, .int (-1 : Int32)] [] (m_MD_nextOf _ _ _ _ _ x1 x2 (-1 : Int32) σ83 h91) (gdV wd_4_217 wd_4_219 wp_25 wd_1_11 wc_MD_nextOf) hy_MD_nextOf rfl ⟨18, rfl⟩ rfl rfl (by decide) (by decide) (by decide) (by decide) (Nat.le_of_ble_eq_true rfl) d_MD_book_91 (j_kI (r := r91) (σ1 := σ83) ?_)
      refine j_istore C (by decide) (loc' := [(5, .int r91), (4, .int (x4 + 1)), (0, .ref (ad 18)), (1, .int x1), (2, .int x2), (3, .int x3)]) rfl d_MD_book_94 ?_
      refine j_goto C d_MD_book_96 rfl ?_
      refine j_sub [2, 3, 4, 5, 1, 0] rfl ?_
      exact hk57 x1 x2 x3 (x4 + 1) r91 σ83 hf
    · have hf := o_it c65 hf
      refine j_aload_n C 0 rfl rfl d_MD_book_68 ?_
      refine g_MD_offerId C (List.mem_cons_of_mem _ wd_4_28) d_MD_book_69 ?_
      refine j_iload C 5 rfl d_MD_book_72 ?_
      obtain ⟨g74, hf⟩ := o_gn hf
      refine la_m_offerId C g74 d_MD_book_74 ?_
      have hf := Option.some.inj hf
      subst hf
      exact j_iret C Rt (Nat.zero_le _) (Nat.zero_le _) d_MD_book_75 ⟨rfl, rfl⟩
def MD_book_L57 : Nat → Int32 → Int32 → Int32 → Int32 → Int32 → ST → Option (Int32 × ST)
  | 0, _, _, _, _, _, _ => none
  | N + 1, x1, x2, x3, x4, x5, σ => MD_book_b57 (fun x1 x2 x3 x4 x5 σ => MD_book_L57 N x1 x2 x3 x4 x5 σ) x1 x2 x3 x4 x5 σ
theorem w_MD_book_L57 {X : JX} (C : JC X l D (ttf cs) eE b_MD_book "TollLedgerModel" 6 (Cond.code y_MD_book b_MD_book 6 r_MD_book :: BIG) 2 52 0 0) {res : Int32 × ST} (Rt : JR X (wfm ad cs) 0 0 (PI res.1 res.2) r_MD_book "book")  (N : Nat) (x1 : Int32) (x2 : Int32) (x3 : Int32) (x4 : Int32) (x5 : Int32) (σ : ST) (hf : MD_book_L57 N x1 x2 x3 x4 x5 σ = some res) : J (wfm ad cs) X 6 0 0 σ 57 [(0, .ref (ad 18)), (1, .int x1), (2, .int x2), (3, .int x3), (4, .int x4), (5, .int x5)] [] := by
  induction N generalizing x1 x2 x3 x4 x5 σ with
  | zero => exact nomatch hf
  | succ N ih => exact w_MD_book_b57 C Rt  (fun x1 x2 x3 x4 x5 σ h => ih x1 x2 x3 x4 x5 σ h) x1 x2 x3 x4 x5 σ hf
def MD_book_b24 (kb24 : Int32 → Int32 → Int32 → Int32 → ST → Option (Int32 × ST)) (x1 : Int32) (x2 : Int32) (x3 : Int32) (x4 : Int32) (σ : ST) : Option (Int32 × ST) :=
  if (12 : Int32) ≤ x4 then (bd1 (MD_nextOf x1 x2 (-1 : Int32) σ) fun r52 =>
  MD_book_L57 FU x1 x2 x3 (0 : Int32) r52 σ)
  else (if x4 < 0 ∨ 12 ≤ x4.toNatClampNeg then none else
  nmS (sA σ 29 x4.toNatClampNeg (0 : Int32)) fun σ38 =>
  kb24 x1 x2 x3 (x4 + 1) σ38)
set_option maxRecDepth 100000 in
set_option maxHeartbeats 4000000 in
theorem w_MD_book_b24 {X : JX} (C : JC X l D (ttf cs) eE b_MD_book "TollLedgerModel" 6 (Cond.code y_MD_book b_MD_book 6 r_MD_book :: BIG) 2 52 0 0) {res : Int32 × ST} (Rt : JR X (wfm ad cs) 0 0 (PI res.1 res.2) r_MD_book "book") {kb24 : Int32 → Int32 → Int32 → Int32 → ST → Option (Int32 × ST)} (hk24 : ∀ (x1 : Int32) (x2 : Int32) (x3 : Int32) (x4 : Int32) (σ : ST), kb24 x1 x2 x3 x4 σ = some res → J (wfm ad cs) X 6 0 0 σ 24 [(0, .ref (ad 18)), (1, .int x1), (2, .int x2), (3, .int x3), (4, .int x4)] []) (x1 : Int32) (x2 : Int32) (x3 : Int32) (x4 : Int32) (σ : ST) (hf : MD_book_b24 kb24 x1 x2 x3 x4 σ = some res) : J (wfm ad cs) X 6 0 0 σ 24 [(0, .ref (ad 18)), (1, .int x1), (2, .int x2), (3, .int x3), (4, .int x4)] [] := by
  unfold MD_book_b24 at hf
  refine j_iload C 4 rfl d_MD_book_24 ?_
  refine j_bipush C (v := 12) (by decide) d_MD_book_26 ?_
  refine j_icmp_ge C d_MD_book_28 rfl (fun c28 => ?_) (fun c28 => ?_)
  · have hf := o_it c28 hf
    refine j_iconst C (v := 0) (by decide) d_MD_book_45 ?_
    refine j_istore C (by decide) (loc' := [(4, .int (0 : Int32)), (0, .ref (ad 18)), (1, .int x1), (2, .int x2), (3, .int x3)]) rfl d_MD_book_46 ?_
    refine j_aload_n C 1 rfl rfl d_MD_book_48 ?_
    refine j_iload_n C 2 rfl rfl d_MD_book_49 ?_
    refine j_iload_n C 3 rfl rfl d_MD_book_50 ?_
    refine j_iconst C (v := -1) (by decide) d_MD_book_51 ?_
    obtain ⟨r52, h52, hf⟩ := o_b1 hf
    refine j_callV (ci := 10) (Cn := "TollLedgerModel") (T := T_MD) (N := 39) C [.int x1, .int x2, .int (-1 : Int32)] [] (m_MD_nextOf _ _ _ _ _ x1 x2 (-1 : Int32) σ h52) (gdV wd_4_217 wd_4_219 wp_25 wd_1_11 wc_MD_nextOf) hy_MD_nextOf rfl ⟨18, rfl⟩ rfl rfl (by decide) (by decide) (by decide) (by decide) (Nat.le_of_ble_eq_true rfl) d_MD_book_52 (j_kI (r := r52) (σ1 := σ) ?_)
    refine j_istore C (by decide) (loc' := [(5, .int r52), (4, .int (0 : Int32)), (0, .ref (ad 18)), (1, .int x1), (2, .int x2), (3, .int x3)]) rfl d_MD_book_55 ?_
    refine j_sub [2, 3, 4, 5, 1, 0] rfl ?_
    exact w_MD_book_L57 C Rt  FU x1 x2 x3 (0 : Int32) r52 σ hf
  · have hf := o_if c28 hf
    refine j_aload_n C 0 rfl rfl d_MD_book_31 ?_
    refine g_MD_seen C (List.mem_cons_of_mem _ wd_4_51) d_MD_book_32 ?_
    refine j_iload C 4 rfl d_MD_book_35 ?_
    refine j_iconst C (v := 0) (by decide) d_MD_book_37 ?_
    obtain ⟨g38, hf⟩ := o_gn hf
    obtain ⟨σ38, eσ38, hf⟩ := o_nmS hf
    refine sa_m_seen C (by decide) g38 eσ38 d_MD_book_38 ?_
    refine j_iinc C 4 rfl (v := (x4 + 1)) (inc_p1 _) (by decide) (loc' := [(4, .int (x4 + 1)), (0, .ref (ad 18)), (1, .int x1), (2, .int x2), (3, .int x3)]) rfl d_MD_book_39 ?_
    refine j_goto C d_MD_book_42 rfl ?_
    refine j_sub [1, 2, 3, 4, 0] rfl ?_
    exact hk24 x1 x2 x3 (x4 + 1) σ38 hf
def MD_book_L24 : Nat → Int32 → Int32 → Int32 → Int32 → ST → Option (Int32 × ST)
  | 0, _, _, _, _, _ => none
  | N + 1, x1, x2, x3, x4, σ => MD_book_b24 (fun x1 x2 x3 x4 σ => MD_book_L24 N x1 x2 x3 x4 σ) x1 x2 x3 x4 σ
theorem w_MD_book_L24 {X : JX} (C : JC X l D (ttf cs) eE b_MD_book "TollLedgerModel" 6 (Cond.code y_MD_book b_MD_book 6 r_MD_book :: BIG) 2 52 0 0) {res : Int32 × ST} (Rt : JR X (wfm ad cs) 0 0 (PI res.1 res.2) r_MD_book "book")  (N : Nat) (x1 : Int32) (x2 : Int32) (x3 : Int32) (x4 : Int32) (σ : ST) (hf : MD_book_L24 N x1 x2 x3 x4 σ = some res) : J (wfm ad cs) X 6 0 0 σ 24 [(0, .ref (ad 18)), (1, .int x1), (2, .int x2), (3, .int x3), (4, .int x4)] [] := by
  induction N generalizing x1 x2 x3 x4 σ with
  | zero => exact nomatch hf
  | succ N ih => exact w_MD_book_b24 C Rt  (fun x1 x2 x3 x4 σ h => ih x1 x2 x3 x4 σ h) x1 x2 x3 x4 σ hf
def MD_book (x1 : Int32) (x2 : Int32) (x3 : Int32) (σ : ST) : Option (Int32 × ST) :=
  bd1 (MD_isAsset x1) fun r1 =>
  if r1 = 0 then (some ((-1 : Int32), σ))
  else (bd1 (MD_isAsset x2) fun r8 =>
  if r8 = 0 then (some ((-1 : Int32), σ))
  else (if (-1 : Int32) ≤ x3 then (MD_book_L24 FU x1 x2 x3 (0 : Int32) σ)
  else (some ((-1 : Int32), σ))))
set_option maxRecDepth 100000 in
set_option maxHeartbeats 4000000 in
theorem m_MD_book (l : Launch) (D : va_G) (ad : Nat → Nat) (cs : Nat → ClassId) (eE : Nat × Nat) (x1 : Int32) (x2 : Int32) (x3 : Int32) (σ : ST) {res : Int32 × ST} (hf : MD_book x1 x2 x3 σ = some res) : MS l y_MD_book (Cond.code y_MD_book b_MD_book 6 r_MD_book :: BIG) 2 52 0 0 (wfm ad cs) D (ttf cs) eE [.ref (ad 18), .int x1, .int x2, .int x3] σ (PI res.1 res.2) := by
  refine MS.of (cc := b_MD_book) (maxL := 6) (ret := r_MD_book) (by decide) rfl (Nat.le_of_ble_eq_true rfl) (loc := [(0, .ref (ad 18)), (1, .int x1), (2, .int x2), (3, .int x3)]) rfl (fun X C Rt => ?_)
  unfold MD_book at hf
  refine j_iload_n C 1 rfl rfl d_MD_book_0 ?_
  obtain ⟨r1, h1, hf⟩ := o_b1 hf
  refine j_callS C [.int x1] [] (m_MD_isAsset _ _ _ _ _ x1 σ h1) (gdS wd_4_149 wd_4_150 wd_1_11 wc_MD_isAsset) hy_MD_isAsset rfl rfl (by decide) (by decide) (by decide) (by decide) (Nat.le_of_ble_eq_true rfl) d_MD_book_1 (j_kI (r := r1) (σ1 := σ) ?_)
  refine j_if_eq C d_MD_book_4 rfl (fun c4 => ?_) (fun c4 => ?_)
  · have hf := o_it c4 hf
    refine j_iconst C (v := -1) (by decide) d_MD_book_19 ?_
    have hf := Option.some.inj hf
    subst hf
    exact j_iret C Rt (Nat.zero_le _) (Nat.zero_le _) d_MD_book_20 ⟨rfl, rfl⟩
  · have hf := o_if c4 hf
    refine j_iload_n C 2 rfl rfl d_MD_book_7 ?_
    obtain ⟨r8, h8, hf⟩ := o_b1 hf
    refine j_callS C [.int x2] [] (m_MD_isAsset _ _ _ _ _ x2 σ h8) (gdS wd_4_149 wd_4_150 wd_1_11 wc_MD_isAsset) hy_MD_isAsset rfl rfl (by decide) (by decide) (by decide) (by decide) (Nat.le_of_ble_eq_true rfl) d_MD_book_8 (j_kI (r := r8) (σ1 := σ) ?_)
    refine j_if_eq C d_MD_book_11 rfl (fun c11 => ?_) (fun c11 => ?_)
    · have hf := o_it c11 hf
      refine j_iconst C (v := -1) (by decide) d_MD_book_19 ?_
      have hf := Option.some.inj hf
      subst hf
      exact j_iret C Rt (Nat.zero_le _) (Nat.zero_le _) d_MD_book_20 ⟨rfl, rfl⟩
    · have hf := o_if c11 hf
      refine j_iload_n C 3 rfl rfl d_MD_book_14 ?_
      refine j_iconst C (v := -1) (by decide) d_MD_book_15 ?_
      refine j_icmp_ge C d_MD_book_16 rfl (fun c16 => ?_) (fun c16 => ?_)
      · have hf := o_it c16 hf
        refine j_iconst C (v := 0) (by decide) d_MD_book_21 ?_
        refine j_istore C (by decide) (loc' := [(4, .int (0 : Int32)), (0, .ref (ad 18)), (1, .int x1), (2, .int x2), (3, .int x3)]) rfl d_MD_book_22 ?_
        refine j_sub [1, 2, 3, 4, 0] rfl ?_
        exact w_MD_book_L24 C Rt  FU x1 x2 x3 (0 : Int32) σ hf
      · have hf := o_if c16 hf
        refine j_iconst C (v := -1) (by decide) d_MD_book_19 ?_
        have hf := Option.some.inj hf
        subst hf
        exact j_iret C Rt (Nat.zero_le _) (Nat.zero_le _) d_MD_book_20 ⟨rfl, rfl⟩
theorem d_MD_burnt_0 : decode b_MD_burnt 0 = .ok (.aload_n 0, 1) := by decide +kernel
theorem d_MD_burnt_1 : decode b_MD_burnt 1 = .ok (.getfield 134, 3) := by decide +kernel
theorem d_MD_burnt_4 : decode b_MD_burnt 4 = .ok (.ireturn, 1) := by decide +kernel
def MD_burnt (σ : ST) : Option (Int32) :=
  some (gI σ 31)
set_option maxRecDepth 100000 in
set_option maxHeartbeats 4000000 in
theorem m_MD_burnt (l : Launch) (D : va_G) (ad : Nat → Nat) (cs : Nat → ClassId) (eE : Nat × Nat) (σ : ST) {res : Int32} (hf : MD_burnt σ = some res) : MS l y_MD_burnt (Cond.code y_MD_burnt b_MD_burnt 1 r_MD_burnt :: BIG) 0 0 0 0 (wfm ad cs) D (ttf cs) eE [.ref (ad 18)] σ (PI res σ) := by
  refine MS.of (cc := b_MD_burnt) (maxL := 1) (ret := r_MD_burnt) (by decide) rfl (Nat.le_of_ble_eq_true rfl) (loc := [(0, .ref (ad 18))]) rfl (fun X C Rt => ?_)
  unfold MD_burnt at hf
  refine j_aload_n C 0 rfl rfl d_MD_burnt_0 ?_
  refine g_MD_burned C (List.mem_cons_of_mem _ wd_4_48) d_MD_burnt_1 ?_
  have hf := Option.some.inj hf
  subst hf
  exact j_iret C Rt (Nat.zero_le _) (Nat.zero_le _) d_MD_burnt_4 ⟨rfl, rfl⟩
theorem d_MD_by_0 : decode b_MD_by 0 = .ok (.iload_n 1, 1) := by decide +kernel
theorem d_MD_by_1 : decode b_MD_by 1 = .ok (.invokestatic 137, 3) := by decide +kernel
theorem d_MD_by_4 : decode b_MD_by 4 = .ok (.ifCond .eq 14, 3) := by decide +kernel
theorem d_MD_by_7 : decode b_MD_by 7 = .ok (.iload_n 2, 1) := by decide +kernel
theorem d_MD_by_8 : decode b_MD_by 8 = .ok (.iconst 1, 1) := by decide +kernel
theorem d_MD_by_9 : decode b_MD_by 9 = .ok (.if_icmp .lt 9, 3) := by decide +kernel
theorem d_MD_by_12 : decode b_MD_by 12 = .ok (.iload_n 2, 1) := by decide +kernel
theorem d_MD_by_13 : decode b_MD_by 13 = .ok (.ldc 72, 2) := by decide +kernel
theorem d_MD_by_15 : decode b_MD_by 15 = .ok (.if_icmp .le 5, 3) := by decide +kernel
theorem d_MD_by_18 : decode b_MD_by 18 = .ok (.iconst 0, 1) := by decide +kernel
theorem d_MD_by_19 : decode b_MD_by 19 = .ok (.ireturn, 1) := by decide +kernel
theorem d_MD_by_20 : decode b_MD_by 20 = .ok (.aload_n 0, 1) := by decide +kernel
theorem d_MD_by_21 : decode b_MD_by 21 = .ok (.iload_n 1, 1) := by decide +kernel
theorem d_MD_by_22 : decode b_MD_by 22 = .ok (.putfield 68, 3) := by decide +kernel
theorem d_MD_by_25 : decode b_MD_by 25 = .ok (.aload_n 0, 1) := by decide +kernel
theorem d_MD_by_26 : decode b_MD_by 26 = .ok (.iload_n 2, 1) := by decide +kernel
theorem d_MD_by_27 : decode b_MD_by 27 = .ok (.putfield 131, 3) := by decide +kernel
theorem d_MD_by_30 : decode b_MD_by 30 = .ok (.iconst 1, 1) := by decide +kernel
theorem d_MD_by_31 : decode b_MD_by 31 = .ok (.ireturn, 1) := by decide +kernel
def MD_by (x1 : Int32) (x2 : Int32) (σ : ST) : Option (Int32 × ST) :=
  bd1 (MD_isAccount x1) fun r1 =>
  if r1 = 0 then (some ((0 : Int32), σ))
  else (if x2 < (1 : Int32) then (some ((0 : Int32), σ))
  else (if x2 ≤ (1000000 : Int32) then (nmS (sI σ 25 x1) fun σ22 =>
  nmS (sI σ22 26 x2) fun σ27 =>
  some ((1 : Int32), σ27))
  else (some ((0 : Int32), σ))))
set_option maxRecDepth 100000 in
set_option maxHeartbeats 4000000 in
theorem m_MD_by (l : Launch) (D : va_G) (ad : Nat → Nat) (cs : Nat → ClassId) (eE : Nat × Nat) (x1 : Int32) (x2 : Int32) (σ : ST) {res : Int32 × ST} (hf : MD_by x1 x2 σ = some res) : MS l y_MD_by (Cond.code y_MD_by b_MD_by 3 r_MD_by :: BIG) 1 20 0 0 (wfm ad cs) D (ttf cs) eE [.ref (ad 18), .int x1, .int x2] σ (PI res.1 res.2) := by
  refine MS.of (cc := b_MD_by) (maxL := 3) (ret := r_MD_by) (by decide) rfl (Nat.le_of_ble_eq_true rfl) (loc := [(0, .ref (ad 18)), (1, .int x1), (2, .int x2)]) rfl (fun X C Rt => ?_)
  unfold MD_by at hf
  refine j_iload_n C 1 rfl rfl d_MD_by_0 ?_
  obtain ⟨r1, h1, hf⟩ := o_b1 hf
  refine j_callS C [.int x1] [] (m_MD_isAccount _ _ _ _ _ x1 σ h1) (gdS wd_4_142 wd_4_143 wd_1_11 wc_MD_isAccount) hy_MD_isAccount rfl rfl (by decide) (by decide) (by decide) (by decide) (Nat.le_of_ble_eq_true rfl) d_MD_by_1 (j_kI (r := r1) (σ1 := σ) ?_)
  refine j_if_eq C d_MD_by_4 rfl (fun c4 => ?_) (fun c4 => ?_)
  · have hf := o_it c4 hf
    refine j_iconst C (v := 0) (by decide) d_MD_by_18 ?_
    have hf := Option.some.inj hf
    subst hf
    exact j_zret C Rt (by decide) (Nat.zero_le _) (Nat.zero_le _) d_MD_by_19 ⟨rfl, rfl⟩
  · have hf := o_if c4 hf
    refine j_iload_n C 2 rfl rfl d_MD_by_7 ?_
    refine j_iconst C (v := 1) (by decide) d_MD_by_8 ?_
    refine j_icmp_lt C d_MD_by_9 rfl (fun c9 => ?_) (fun c9 => ?_)
    · have hf := o_it c9 hf
      refine j_iconst C (v := 0) (by decide) d_MD_by_18 ?_
      have hf := Option.some.inj hf
      subst hf
      exact j_zret C Rt (by decide) (Nat.zero_le _) (Nat.zero_le _) d_MD_by_19 ⟨rfl, rfl⟩
    · have hf := o_if c9 hf
      refine j_iload_n C 2 rfl rfl d_MD_by_12 ?_
      refine j_ldc C (v := 1000000) (List.mem_cons_of_mem _ wd_4_18) d_MD_by_13 ?_
      refine j_icmp_le C d_MD_by_15 rfl (fun c15 => ?_) (fun c15 => ?_)
      · have hf := o_it c15 hf
        refine j_aload_n C 0 rfl rfl d_MD_by_20 ?_
        refine j_iload_n C 1 rfl rfl d_MD_by_21 ?_
        obtain ⟨σ22, eσ22, hf⟩ := o_nmS hf
        refine p_MD_me C eσ22 (List.mem_cons_of_mem _ wd_4_42) d_MD_by_22 ?_
        refine j_aload_n C 0 rfl rfl d_MD_by_25 ?_
        refine j_iload_n C 2 rfl rfl d_MD_by_26 ?_
        obtain ⟨σ27, eσ27, hf⟩ := o_nmS hf
        refine p_MD_myNumber C eσ27 (List.mem_cons_of_mem _ wd_4_43) d_MD_by_27 ?_
        refine j_iconst C (v := 1) (by decide) d_MD_by_30 ?_
        have hf := Option.some.inj hf
        subst hf
        exact j_zret C Rt (by decide) (Nat.zero_le _) (Nat.zero_le _) d_MD_by_31 ⟨rfl, rfl⟩
      · have hf := o_if c15 hf
        refine j_iconst C (v := 0) (by decide) d_MD_by_18 ?_
        have hf := Option.some.inj hf
        subst hf
        exact j_zret C Rt (by decide) (Nat.zero_le _) (Nat.zero_le _) d_MD_by_19 ⟨rfl, rfl⟩
theorem d_MD_issuerOf_0 : decode b_MD_issuerOf 0 = .ok (.iload_n 0, 1) := by decide +kernel
theorem d_MD_issuerOf_1 : decode b_MD_issuerOf 1 = .ok (.iconst 1, 1) := by decide +kernel
theorem d_MD_issuerOf_2 : decode b_MD_issuerOf 2 = .ok (.isub, 1) := by decide +kernel
theorem d_MD_issuerOf_3 : decode b_MD_issuerOf 3 = .ok (.bipush 6, 2) := by decide +kernel
theorem d_MD_issuerOf_5 : decode b_MD_issuerOf 5 = .ok (.irem, 1) := by decide +kernel
theorem d_MD_issuerOf_6 : decode b_MD_issuerOf 6 = .ok (.ireturn, 1) := by decide +kernel
def MD_issuerOf (x0 : Int32) : Option (Int32) :=
  some (imod (x0 - (1 : Int32)) (6 : Int32))
set_option maxRecDepth 100000 in
set_option maxHeartbeats 4000000 in
theorem m_MD_issuerOf (l : Launch) (D : va_G) (ad : Nat → Nat) (cs : Nat → ClassId) (eE : Nat × Nat) (x0 : Int32) (σ : ST) {res : Int32} (hf : MD_issuerOf x0 = some res) : MS l y_MD_issuerOf (Cond.code y_MD_issuerOf b_MD_issuerOf 1 r_MD_issuerOf :: BIG) 0 0 0 0 (wfm ad cs) D (ttf cs) eE [.int x0] σ (PI res σ) := by
  refine MS.of (cc := b_MD_issuerOf) (maxL := 1) (ret := r_MD_issuerOf) (by decide) rfl (Nat.le_of_ble_eq_true rfl) (loc := [(0, .int x0)]) rfl (fun X C Rt => ?_)
  unfold MD_issuerOf at hf
  refine j_iload_n C 0 rfl rfl d_MD_issuerOf_0 ?_
  refine j_iconst C (v := 1) (by decide) d_MD_issuerOf_1 ?_
  refine j_isub C d_MD_issuerOf_2 ?_
  refine j_bipush C (v := 6) (by decide) d_MD_issuerOf_3 ?_
  refine j_irem C (by decide) d_MD_issuerOf_5 ?_
  have hf := Option.some.inj hf
  subst hf
  exact j_iret C Rt (Nat.zero_le _) (Nat.zero_le _) d_MD_issuerOf_6 ⟨rfl, rfl⟩
theorem d_MD_costOf_0 : decode b_MD_costOf 0 = .ok (.iload 5, 2) := by decide +kernel
theorem d_MD_costOf_2 : decode b_MD_costOf 2 = .ok (.ifCond .eq 22, 3) := by decide +kernel
theorem d_MD_costOf_5 : decode b_MD_costOf 5 = .ok (.iload 5, 2) := by decide +kernel
theorem d_MD_costOf_7 : decode b_MD_costOf 7 = .ok (.invokestatic 95, 3) := by decide +kernel
theorem d_MD_costOf_10 : decode b_MD_costOf 10 = .ok (.iload_n 3, 1) := by decide +kernel
theorem d_MD_costOf_11 : decode b_MD_costOf 11 = .ok (.if_icmp .eq 13, 3) := by decide +kernel
theorem d_MD_costOf_14 : decode b_MD_costOf 14 = .ok (.iload 5, 2) := by decide +kernel
theorem d_MD_costOf_16 : decode b_MD_costOf 16 = .ok (.invokestatic 95, 3) := by decide +kernel
theorem d_MD_costOf_19 : decode b_MD_costOf 19 = .ok (.iload 4, 2) := by decide +kernel
theorem d_MD_costOf_21 : decode b_MD_costOf 21 = .ok (.if_icmp .ne 5, 3) := by decide +kernel
theorem d_MD_costOf_24 : decode b_MD_costOf 24 = .ok (.lload_n 1, 1) := by decide +kernel
theorem d_MD_costOf_25 : decode b_MD_costOf 25 = .ok (.lreturn, 1) := by decide +kernel
theorem d_MD_costOf_26 : decode b_MD_costOf 26 = .ok (.lload_n 1, 1) := by decide +kernel
theorem d_MD_costOf_27 : decode b_MD_costOf 27 = .ok (.lload_n 1, 1) := by decide +kernel
theorem d_MD_costOf_28 : decode b_MD_costOf 28 = .ok (.aload_n 0, 1) := by decide +kernel
theorem d_MD_costOf_29 : decode b_MD_costOf 29 = .ok (.getfield 20, 3) := by decide +kernel
theorem d_MD_costOf_32 : decode b_MD_costOf 32 = .ok (.iload 5, 2) := by decide +kernel
theorem d_MD_costOf_34 : decode b_MD_costOf 34 = .ok (.invokestatic 95, 3) := by decide +kernel
theorem d_MD_costOf_37 : decode b_MD_costOf 37 = .ok (.iaload, 1) := by decide +kernel
theorem d_MD_costOf_38 : decode b_MD_costOf 38 = .ok (.i2l, 1) := by decide +kernel
theorem d_MD_costOf_39 : decode b_MD_costOf 39 = .ok (.lmul, 1) := by decide +kernel
theorem d_MD_costOf_40 : decode b_MD_costOf 40 = .ok (.ldc2_w 127, 3) := by decide +kernel
theorem d_MD_costOf_43 : decode b_MD_costOf 43 = .ok (.ladd, 1) := by decide +kernel
theorem d_MD_costOf_44 : decode b_MD_costOf 44 = .ok (.ldc2_w 129, 3) := by decide +kernel
theorem d_MD_costOf_47 : decode b_MD_costOf 47 = .ok (.ldiv, 1) := by decide +kernel
theorem d_MD_costOf_48 : decode b_MD_costOf 48 = .ok (.ladd, 1) := by decide +kernel
theorem d_MD_costOf_49 : decode b_MD_costOf 49 = .ok (.lreturn, 1) := by decide +kernel
def MD_costOf (x1 : Int64) (x3 : Int32) (x4 : Int32) (x5 : Int32) (σ : ST) : Option (Int64) :=
  if x5 = 0 then (some x1)
  else (bd1 (MD_issuerOf x5) fun r7 =>
  if r7 = x3 then (some x1)
  else (bd1 (MD_issuerOf x5) fun r16 =>
  if r16 = x4 then (some x1)
  else (bd1 (MD_issuerOf x5) fun r34 =>
  if r34 < 0 ∨ 6 ≤ r34.toNatClampNeg then none else
  some (x1 + (((x1 * (gA σ 11 r34.toNatClampNeg).toInt64) + (999 : Int64)) / (1000 : Int64))))))
set_option maxRecDepth 100000 in
set_option maxHeartbeats 4000000 in
theorem m_MD_costOf (l : Launch) (D : va_G) (ad : Nat → Nat) (cs : Nat → ClassId) (eE : Nat × Nat) (x1 : Int64) (x3 : Int32) (x4 : Int32) (x5 : Int32) (σ : ST) {res : Int64} (hf : MD_costOf x1 x3 x4 x5 σ = some res) : MS l y_MD_costOf (Cond.code y_MD_costOf b_MD_costOf 6 r_MD_costOf :: BIG) 1 20 0 0 (wfm ad cs) D (ttf cs) eE [.ref (ad 18), .long x1, .int x3, .int x4, .int x5] σ (PL res σ) := by
  refine MS.of (cc := b_MD_costOf) (maxL := 6) (ret := r_MD_costOf) (by decide) rfl (Nat.le_of_ble_eq_true rfl) (loc := [(0, .ref (ad 18)), (1, .long x1), (3, .int x3), (4, .int x4), (5, .int x5)]) rfl (fun X C Rt => ?_)
  unfold MD_costOf at hf
  refine j_iload C 4 rfl d_MD_costOf_0 ?_
  refine j_if_eq C d_MD_costOf_2 rfl (fun c2 => ?_) (fun c2 => ?_)
  · have hf := o_it c2 hf
    refine j_lload_n C 1 rfl rfl d_MD_costOf_24 ?_
    have hf := Option.some.inj hf
    subst hf
    exact j_lret C Rt (Nat.zero_le _) (Nat.zero_le _) d_MD_costOf_25 ⟨rfl, rfl⟩
  · have hf := o_if c2 hf
    refine j_iload C 4 rfl d_MD_costOf_5 ?_
    obtain ⟨r7, h7, hf⟩ := o_b1 hf
    refine j_callS C [.int x5] [] (m_MD_issuerOf _ _ _ _ _ x5 σ h7) (gdS wd_4_164 wd_4_165 wd_1_11 wc_MD_issuerOf) hy_MD_issuerOf rfl rfl (by decide) (by decide) (by decide) (by decide) (Nat.le_of_ble_eq_true rfl) d_MD_costOf_7 (j_kI (r := r7) (σ1 := σ) ?_)
    refine j_iload_n C 2 rfl rfl d_MD_costOf_10 ?_
    refine j_icmp_eq C d_MD_costOf_11 rfl (fun c11 => ?_) (fun c11 => ?_)
    · have hf := o_it c11 hf
      refine j_lload_n C 1 rfl rfl d_MD_costOf_24 ?_
      have hf := Option.some.inj hf
      subst hf
      exact j_lret C Rt (Nat.zero_le _) (Nat.zero_le _) d_MD_costOf_25 ⟨rfl, rfl⟩
    · have hf := o_if c11 hf
      refine j_iload C 4 rfl d_MD_costOf_14 ?_
      obtain ⟨r16, h16, hf⟩ := o_b1 hf
      refine j_callS C [.int x5] [] (m_MD_issuerOf _ _ _ _ _ x5 σ h16) (gdS wd_4_164 wd_4_165 wd_1_11 wc_MD_issuerOf) hy_MD_issuerOf rfl rfl (by decide) (by decide) (by decide) (by decide) (Nat.le_of_ble_eq_true rfl) d_MD_costOf_16 (j_kI (r := r16) (σ1 := σ) ?_)
      refine j_iload C 3 rfl d_MD_costOf_19 ?_
      refine j_icmp_ne C d_MD_costOf_21 rfl (fun c21 => ?_) (fun c21 => ?_)
      · have hf := o_if c21 hf
        refine j_lload_n C 1 rfl rfl d_MD_costOf_26 ?_
        refine j_lload_n C 1 rfl rfl d_MD_costOf_27 ?_
        refine j_aload_n C 0 rfl rfl d_MD_costOf_28 ?_
        refine g_MD_rates C (List.mem_cons_of_mem _ wd_4_22) d_MD_costOf_29 ?_
        refine j_iload C 4 rfl d_MD_costOf_32 ?_
        obtain ⟨r34, h34, hf⟩ := o_b1 hf
        refine j_callS C [.int x5] [.ref (ad 22), .long x1, .long x1] (m_MD_issuerOf _ _ _ _ _ x5 σ h34) (gdS wd_4_164 wd_4_165 wd_1_11 wc_MD_issuerOf) hy_MD_issuerOf rfl rfl (by decide) (by decide) (by decide) (by decide) (Nat.le_of_ble_eq_true rfl) d_MD_costOf_34 (j_kI (r := r34) (σ1 := σ) ?_)
        obtain ⟨g37, hf⟩ := o_gn hf
        refine la_m_rates C g37 d_MD_costOf_37 ?_
        refine j_i2l C d_MD_costOf_38 ?_
        refine j_lmul C d_MD_costOf_39 ?_
        refine j_ldc2 C (v := 999) (List.mem_cons_of_mem _ wd_4_211) d_MD_costOf_40 ?_
        refine j_ladd C d_MD_costOf_43 ?_
        refine j_ldc2 C (v := 1000) (List.mem_cons_of_mem _ wd_4_212) d_MD_costOf_44 ?_
        refine j_ldiv C (by decide) d_MD_costOf_47 ?_
        refine j_ladd C d_MD_costOf_48 ?_
        have hf := Option.some.inj hf
        subst hf
        exact j_lret C Rt (Nat.zero_le _) (Nat.zero_le _) d_MD_costOf_49 ⟨rfl, rfl⟩
      · have hf := o_it c21 hf
        refine j_lload_n C 1 rfl rfl d_MD_costOf_24 ?_
        have hf := Option.some.inj hf
        subst hf
        exact j_lret C Rt (Nat.zero_le _) (Nat.zero_le _) d_MD_costOf_25 ⟨rfl, rfl⟩
theorem d_MD_reserve_0 : decode b_MD_reserve 0 = .ok (.bipush 100, 2) := by decide +kernel
theorem d_MD_reserve_2 : decode b_MD_reserve 2 = .ok (.bipush 20, 2) := by decide +kernel
theorem d_MD_reserve_4 : decode b_MD_reserve 4 = .ok (.aload_n 0, 1) := by decide +kernel
theorem d_MD_reserve_5 : decode b_MD_reserve 5 = .ok (.iload_n 1, 1) := by decide +kernel
theorem d_MD_reserve_6 : decode b_MD_reserve 6 = .ok (.invokevirtual 116, 3) := by decide +kernel
theorem d_MD_reserve_9 : decode b_MD_reserve 9 = .ok (.imul, 1) := by decide +kernel
theorem d_MD_reserve_10 : decode b_MD_reserve 10 = .ok (.iadd, 1) := by decide +kernel
theorem d_MD_reserve_11 : decode b_MD_reserve 11 = .ok (.ireturn, 1) := by decide +kernel
def MD_reserve (x1 : Int32) (σ : ST) : Option (Int32) :=
  bd1 (MD_pieces x1 σ) fun r6 =>
  some ((100 : Int32) + ((20 : Int32) * r6))
set_option maxRecDepth 100000 in
set_option maxHeartbeats 4000000 in
theorem m_MD_reserve (l : Launch) (D : va_G) (ad : Nat → Nat) (cs : Nat → ClassId) (eE : Nat × Nat) (x1 : Int32) (σ : ST) {res : Int32} (hf : MD_reserve x1 σ = some res) : MS l y_MD_reserve (Cond.code y_MD_reserve b_MD_reserve 2 r_MD_reserve :: BIG) 2 44 0 0 (wfm ad cs) D (ttf cs) eE [.ref (ad 18), .int x1] σ (PI res σ) := by
  refine MS.of (cc := b_MD_reserve) (maxL := 2) (ret := r_MD_reserve) (by decide) rfl (Nat.le_of_ble_eq_true rfl) (loc := [(0, .ref (ad 18)), (1, .int x1)]) rfl (fun X C Rt => ?_)
  unfold MD_reserve at hf
  refine j_bipush C (v := 100) (by decide) d_MD_reserve_0 ?_
  refine j_bipush C (v := 20) (by decide) d_MD_reserve_2 ?_
  refine j_aload_n C 0 rfl rfl d_MD_reserve_4 ?_
  refine j_iload_n C 1 rfl rfl d_MD_reserve_5 ?_
  obtain ⟨r6, h6, hf⟩ := o_b1 hf
  refine j_callV (ci := 10) (Cn := "TollLedgerModel") (T := T_MD) (N := 39) C [.int x1] [.int (20 : Int32), .int (100 : Int32)] (m_MD_pieces _ _ _ _ _ x1 σ h6) (gdV wd_4_172 wd_4_174 wp_20 wd_1_11 wc_MD_pieces) hy_MD_pieces rfl ⟨18, rfl⟩ rfl rfl (by decide) (by decide) (by decide) (by decide) (Nat.le_of_ble_eq_true rfl) d_MD_reserve_6 (j_kI (r := r6) (σ1 := σ) ?_)
  refine j_imul C d_MD_reserve_9 ?_
  refine j_iadd C d_MD_reserve_10 ?_
  have hf := Option.some.inj hf
  subst hf
  exact j_iret C Rt (Nat.zero_le _) (Nat.zero_le _) d_MD_reserve_11 ⟨rfl, rfl⟩
theorem d_MD_currencyOf_0 : decode b_MD_currencyOf 0 = .ok (.iconst 1, 1) := by decide +kernel
theorem d_MD_currencyOf_1 : decode b_MD_currencyOf 1 = .ok (.iload_n 0, 1) := by decide +kernel
theorem d_MD_currencyOf_2 : decode b_MD_currencyOf 2 = .ok (.iconst 1, 1) := by decide +kernel
theorem d_MD_currencyOf_3 : decode b_MD_currencyOf 3 = .ok (.isub, 1) := by decide +kernel
theorem d_MD_currencyOf_4 : decode b_MD_currencyOf 4 = .ok (.bipush 6, 2) := by decide +kernel
theorem d_MD_currencyOf_6 : decode b_MD_currencyOf 6 = .ok (.idiv, 1) := by decide +kernel
theorem d_MD_currencyOf_7 : decode b_MD_currencyOf 7 = .ok (.iadd, 1) := by decide +kernel
theorem d_MD_currencyOf_8 : decode b_MD_currencyOf 8 = .ok (.ireturn, 1) := by decide +kernel
def MD_currencyOf (x0 : Int32) : Option (Int32) :=
  some ((1 : Int32) + ((x0 - (1 : Int32)) / (6 : Int32)))
set_option maxRecDepth 100000 in
set_option maxHeartbeats 4000000 in
theorem m_MD_currencyOf (l : Launch) (D : va_G) (ad : Nat → Nat) (cs : Nat → ClassId) (eE : Nat × Nat) (x0 : Int32) (σ : ST) {res : Int32} (hf : MD_currencyOf x0 = some res) : MS l y_MD_currencyOf (Cond.code y_MD_currencyOf b_MD_currencyOf 1 r_MD_currencyOf :: BIG) 0 0 0 0 (wfm ad cs) D (ttf cs) eE [.int x0] σ (PI res σ) := by
  refine MS.of (cc := b_MD_currencyOf) (maxL := 1) (ret := r_MD_currencyOf) (by decide) rfl (Nat.le_of_ble_eq_true rfl) (loc := [(0, .int x0)]) rfl (fun X C Rt => ?_)
  unfold MD_currencyOf at hf
  refine j_iconst C (v := 1) (by decide) d_MD_currencyOf_0 ?_
  refine j_iload_n C 0 rfl rfl d_MD_currencyOf_1 ?_
  refine j_iconst C (v := 1) (by decide) d_MD_currencyOf_2 ?_
  refine j_isub C d_MD_currencyOf_3 ?_
  refine j_bipush C (v := 6) (by decide) d_MD_currencyOf_4 ?_
  refine j_idiv C (by decide) d_MD_currencyOf_6 ?_
  refine j_iadd C d_MD_currencyOf_7 ?_
  have hf := Option.some.inj hf
  subst hf
  exact j_iret C Rt (Nat.zero_le _) (Nat.zero_le _) d_MD_currencyOf_8 ⟨rfl, rfl⟩
theorem d_MD_holding_0 : decode b_MD_holding 0 = .ok (.iload_n 1, 1) := by decide +kernel
theorem d_MD_holding_1 : decode b_MD_holding 1 = .ok (.invokestatic 95, 3) := by decide +kernel
theorem d_MD_holding_4 : decode b_MD_holding 4 = .ok (.istore_n 2, 1) := by decide +kernel
theorem d_MD_holding_5 : decode b_MD_holding 5 = .ok (.iload_n 1, 1) := by decide +kernel
theorem d_MD_holding_6 : decode b_MD_holding 6 = .ok (.invokestatic 99, 3) := by decide +kernel
theorem d_MD_holding_9 : decode b_MD_holding 9 = .ok (.istore_n 3, 1) := by decide +kernel
theorem d_MD_holding_10 : decode b_MD_holding 10 = .ok (.iload_n 0, 1) := by decide +kernel
theorem d_MD_holding_11 : decode b_MD_holding 11 = .ok (.iload_n 2, 1) := by decide +kernel
theorem d_MD_holding_12 : decode b_MD_holding 12 = .ok (.iload_n 3, 1) := by decide +kernel
theorem d_MD_holding_13 : decode b_MD_holding 13 = .ok (.invokestatic 102, 3) := by decide +kernel
theorem d_MD_holding_16 : decode b_MD_holding 16 = .ok (.ireturn, 1) := by decide +kernel
def MD_holding (x0 : Int32) (x1 : Int32) : Option (Int32) :=
  bd1 (MD_issuerOf x1) fun r1 =>
  bd1 (MD_currencyOf x1) fun r6 =>
  bd1 (MD_line x0 r1 r6) fun r13 =>
  some r13
set_option maxRecDepth 100000 in
set_option maxHeartbeats 4000000 in
theorem m_MD_holding (l : Launch) (D : va_G) (ad : Nat → Nat) (cs : Nat → ClassId) (eE : Nat × Nat) (x0 : Int32) (x1 : Int32) (σ : ST) {res : Int32} (hf : MD_holding x0 x1 = some res) : MS l y_MD_holding (Cond.code y_MD_holding b_MD_holding 4 r_MD_holding :: BIG) 1 22 0 0 (wfm ad cs) D (ttf cs) eE [.int x0, .int x1] σ (PI res σ) := by
  refine MS.of (cc := b_MD_holding) (maxL := 4) (ret := r_MD_holding) (by decide) rfl (Nat.le_of_ble_eq_true rfl) (loc := [(0, .int x0), (1, .int x1)]) rfl (fun X C Rt => ?_)
  unfold MD_holding at hf
  refine j_iload_n C 1 rfl rfl d_MD_holding_0 ?_
  obtain ⟨r1, h1, hf⟩ := o_b1 hf
  refine j_callS C [.int x1] [] (m_MD_issuerOf _ _ _ _ _ x1 σ h1) (gdS wd_4_164 wd_4_165 wd_1_11 wc_MD_issuerOf) hy_MD_issuerOf rfl rfl (by decide) (by decide) (by decide) (by decide) (Nat.le_of_ble_eq_true rfl) d_MD_holding_1 (j_kI (r := r1) (σ1 := σ) ?_)
  refine j_istore_n C rfl (by decide) (loc' := [(2, .int r1), (0, .int x0), (1, .int x1)]) rfl d_MD_holding_4 ?_
  refine j_iload_n C 2 rfl rfl d_MD_holding_5 ?_
  obtain ⟨r6, h6, hf⟩ := o_b1 hf
  refine j_callS C [.int x1] [] (m_MD_currencyOf _ _ _ _ _ x1 σ h6) (gdS wd_4_183 wd_4_184 wd_1_11 wc_MD_currencyOf) hy_MD_currencyOf rfl rfl (by decide) (by decide) (by decide) (by decide) (Nat.le_of_ble_eq_true rfl) d_MD_holding_6 (j_kI (r := r6) (σ1 := σ) ?_)
  refine j_istore_n C rfl (by decide) (loc' := [(3, .int r6), (2, .int r1), (0, .int x0), (1, .int x1)]) rfl d_MD_holding_9 ?_
  refine j_iload_n C 2 rfl rfl d_MD_holding_10 ?_
  refine j_iload_n C 1 rfl rfl d_MD_holding_11 ?_
  refine j_iload_n C 0 rfl rfl d_MD_holding_12 ?_
  obtain ⟨r13, h13, hf⟩ := o_b1 hf
  refine j_callS C [.int x0, .int r1, .int r6] [] (m_MD_line _ _ _ _ _ x0 r1 r6 σ h13) (gdS wd_4_186 wd_4_187 wd_1_11 wc_MD_line) hy_MD_line rfl rfl (by decide) (by decide) (by decide) (by decide) (Nat.le_of_ble_eq_true rfl) d_MD_holding_13 (j_kI (r := r13) (σ1 := σ) ?_)
  have hf := Option.some.inj hf
  subst hf
  exact j_iret C Rt (Nat.zero_le _) (Nat.zero_le _) d_MD_holding_16 ⟨rfl, rfl⟩
theorem d_MD_fundsIn_0 : decode b_MD_fundsIn 0 = .ok (.iload_n 2, 1) := by decide +kernel
theorem d_MD_fundsIn_1 : decode b_MD_fundsIn 1 = .ok (.ifCond .le 14, 3) := by decide +kernel
theorem d_MD_fundsIn_4 : decode b_MD_fundsIn 4 = .ok (.iload_n 2, 1) := by decide +kernel
theorem d_MD_fundsIn_5 : decode b_MD_fundsIn 5 = .ok (.invokestatic 95, 3) := by decide +kernel
theorem d_MD_fundsIn_8 : decode b_MD_fundsIn 8 = .ok (.iload_n 1, 1) := by decide +kernel
theorem d_MD_fundsIn_9 : decode b_MD_fundsIn 9 = .ok (.if_icmp .ne 6, 3) := by decide +kernel
theorem d_MD_fundsIn_12 : decode b_MD_fundsIn 12 = .ok (.ldc 119, 2) := by decide +kernel
theorem d_MD_fundsIn_14 : decode b_MD_fundsIn 14 = .ok (.ireturn, 1) := by decide +kernel
theorem d_MD_fundsIn_15 : decode b_MD_fundsIn 15 = .ok (.iload_n 2, 1) := by decide +kernel
theorem d_MD_fundsIn_16 : decode b_MD_fundsIn 16 = .ok (.ifCond .ne 18, 3) := by decide +kernel
theorem d_MD_fundsIn_19 : decode b_MD_fundsIn 19 = .ok (.aload_n 0, 1) := by decide +kernel
theorem d_MD_fundsIn_20 : decode b_MD_fundsIn 20 = .ok (.getfield 13, 3) := by decide +kernel
theorem d_MD_fundsIn_23 : decode b_MD_fundsIn 23 = .ok (.iload_n 1, 1) := by decide +kernel
theorem d_MD_fundsIn_24 : decode b_MD_fundsIn 24 = .ok (.iaload, 1) := by decide +kernel
theorem d_MD_fundsIn_25 : decode b_MD_fundsIn 25 = .ok (.aload_n 0, 1) := by decide +kernel
theorem d_MD_fundsIn_26 : decode b_MD_fundsIn 26 = .ok (.iload_n 1, 1) := by decide +kernel
theorem d_MD_fundsIn_27 : decode b_MD_fundsIn 27 = .ok (.invokevirtual 120, 3) := by decide +kernel
theorem d_MD_fundsIn_30 : decode b_MD_fundsIn 30 = .ok (.isub, 1) := by decide +kernel
theorem d_MD_fundsIn_31 : decode b_MD_fundsIn 31 = .ok (.goto 13, 3) := by decide +kernel
theorem d_MD_fundsIn_34 : decode b_MD_fundsIn 34 = .ok (.aload_n 0, 1) := by decide +kernel
theorem d_MD_fundsIn_35 : decode b_MD_fundsIn 35 = .ok (.getfield 23, 3) := by decide +kernel
theorem d_MD_fundsIn_38 : decode b_MD_fundsIn 38 = .ok (.iload_n 1, 1) := by decide +kernel
theorem d_MD_fundsIn_39 : decode b_MD_fundsIn 39 = .ok (.iload_n 2, 1) := by decide +kernel
theorem d_MD_fundsIn_40 : decode b_MD_fundsIn 40 = .ok (.invokestatic 123, 3) := by decide +kernel
theorem d_MD_fundsIn_43 : decode b_MD_fundsIn 43 = .ok (.iaload, 1) := by decide +kernel
theorem d_MD_fundsIn_44 : decode b_MD_fundsIn 44 = .ok (.istore_n 3, 1) := by decide +kernel
theorem d_MD_fundsIn_45 : decode b_MD_fundsIn 45 = .ok (.iload_n 3, 1) := by decide +kernel
theorem d_MD_fundsIn_46 : decode b_MD_fundsIn 46 = .ok (.ifCond .ge 7, 3) := by decide +kernel
theorem d_MD_fundsIn_49 : decode b_MD_fundsIn 49 = .ok (.iconst 0, 1) := by decide +kernel
theorem d_MD_fundsIn_50 : decode b_MD_fundsIn 50 = .ok (.goto 4, 3) := by decide +kernel
theorem d_MD_fundsIn_53 : decode b_MD_fundsIn 53 = .ok (.iload_n 3, 1) := by decide +kernel
theorem d_MD_fundsIn_54 : decode b_MD_fundsIn 54 = .ok (.ireturn, 1) := by decide +kernel
def MD_fundsIn_c44 (s0 : Int32) (σ : ST) : Option (Int32) :=
  if 0 ≤ s0 then (some s0)
  else (some (0 : Int32))
set_option maxRecDepth 100000 in
set_option maxHeartbeats 4000000 in
theorem w_MD_fundsIn_c44 {X : JX} (C : JC X l D (ttf cs) eE b_MD_fundsIn "TollLedgerModel" 4 (Cond.code y_MD_fundsIn b_MD_fundsIn 4 r_MD_fundsIn :: BIG) 3 65 0 0) {σ : ST} {res : Int32} (Rt : JR X (wfm ad cs) 0 0 (PI res σ) r_MD_fundsIn "fundsIn")  (s0 : Int32) (hf : MD_fundsIn_c44 s0 σ = some res) : J (wfm ad cs) X 4 0 0 σ 44 [] [.int s0] := by
  unfold MD_fundsIn_c44 at hf
  refine j_istore_n C rfl (by decide) (loc' := [(3, .int s0)]) rfl d_MD_fundsIn_44 ?_
  refine j_iload_n C 0 rfl rfl d_MD_fundsIn_45 ?_
  refine j_if_ge C d_MD_fundsIn_46 rfl (fun c46 => ?_) (fun c46 => ?_)
  · have hf := o_it c46 hf
    refine j_iload_n C 0 rfl rfl d_MD_fundsIn_53 ?_
    have hf := Option.some.inj hf
    subst hf
    exact j_iret C Rt (Nat.zero_le _) (Nat.zero_le _) d_MD_fundsIn_54 ⟨rfl, rfl⟩
  · have hf := o_if c46 hf
    refine j_iconst C (v := 0) (by decide) d_MD_fundsIn_49 ?_
    refine j_goto C d_MD_fundsIn_50 rfl ?_
    have hf := Option.some.inj hf
    subst hf
    exact j_iret C Rt (Nat.zero_le _) (Nat.zero_le _) d_MD_fundsIn_54 ⟨rfl, rfl⟩
def MD_fundsIn_c15 (x1 : Int32) (x2 : Int32) (σ : ST) : Option (Int32) :=
  if x2 = 0 then (if x1 < 0 ∨ 6 ≤ x1.toNatClampNeg then none else
  bd1 (MD_reserve x1 σ) fun r27 =>
  MD_fundsIn_c44 ((gA σ 9 x1.toNatClampNeg) - r27) σ)
  else (bd1 (MD_holding x1 x2) fun r40 =>
  if r40 < 0 ∨ 72 ≤ r40.toNatClampNeg then none else
  MD_fundsIn_c44 (gA σ 12 r40.toNatClampNeg) σ)
set_option maxRecDepth 100000 in
set_option maxHeartbeats 4000000 in
theorem w_MD_fundsIn_c15 {X : JX} (C : JC X l D (ttf cs) eE b_MD_fundsIn "TollLedgerModel" 4 (Cond.code y_MD_fundsIn b_MD_fundsIn 4 r_MD_fundsIn :: BIG) 3 65 0 0) {σ : ST} {res : Int32} (Rt : JR X (wfm ad cs) 0 0 (PI res σ) r_MD_fundsIn "fundsIn")  (x1 : Int32) (x2 : Int32) (hf : MD_fundsIn_c15 x1 x2 σ = some res) : J (wfm ad cs) X 4 0 0 σ 15 [(0, .ref (ad 18)), (1, .int x1), (2, .int x2)] [] := by
  unfold MD_fundsIn_c15 at hf
  refine j_iload_n C 2 rfl rfl d_MD_fundsIn_15 ?_
  refine j_if_ne C d_MD_fundsIn_16 rfl (fun c16 => ?_) (fun c16 => ?_)
  · have hf := o_if c16 hf
    refine j_aload_n C 0 rfl rfl d_MD_fundsIn_34 ?_
    refine g_MD_balances C (List.mem_cons_of_mem _ wd_4_23) d_MD_fundsIn_35 ?_
    refine j_iload_n C 1 rfl rfl d_MD_fundsIn_38 ?_
    refine j_iload_n C 2 rfl rfl d_MD_fundsIn_39 ?_
    obtain ⟨r40, h40, hf⟩ := o_b1 hf
    refine j_callS C [.int x1, .int x2] [.ref (ad 23)] (m_MD_holding _ _ _ _ _ x1 x2 σ h40) (gdS wd_4_180 wd_4_181 wd_1_11 wc_MD_holding) hy_MD_holding rfl rfl (by decide) (by decide) (by decide) (by decide) (Nat.le_of_ble_eq_true rfl) d_MD_fundsIn_40 (j_kI (r := r40) (σ1 := σ) ?_)
    obtain ⟨g43, hf⟩ := o_gn hf
    refine la_m_balances C g43 d_MD_fundsIn_43 ?_
    refine j_sub [] rfl ?_
    exact w_MD_fundsIn_c44 C Rt  (gA σ 12 r40.toNatClampNeg) hf
  · have hf := o_it c16 hf
    refine j_aload_n C 0 rfl rfl d_MD_fundsIn_19 ?_
    refine g_MD_coins C (List.mem_cons_of_mem _ wd_4_20) d_MD_fundsIn_20 ?_
    refine j_iload_n C 1 rfl rfl d_MD_fundsIn_23 ?_
    obtain ⟨g24, hf⟩ := o_gn hf
    refine la_m_coins C g24 d_MD_fundsIn_24 ?_
    refine j_aload_n C 0 rfl rfl d_MD_fundsIn_25 ?_
    refine j_iload_n C 1 rfl rfl d_MD_fundsIn_26 ?_
    obtain ⟨r27, h27, hf⟩ := o_b1 hf
    refine j_callV (ci := 10) (Cn := "TollLedgerModel") (T := T_MD) (N := 39) C [.int x1] [.int (gA σ 9 x1.toNatClampNeg)] (m_MD_reserve _ _ _ _ _ x1 σ h27) (gdV wd_4_168 wd_4_170 wp_19 wd_1_11 wc_MD_reserve) hy_MD_reserve rfl ⟨18, rfl⟩ rfl rfl (by decide) (by decide) (by decide) (by decide) (Nat.le_of_ble_eq_true rfl) d_MD_fundsIn_27 (j_kI (r := r27) (σ1 := σ) ?_)
    refine j_isub C d_MD_fundsIn_30 ?_
    refine j_goto C d_MD_fundsIn_31 rfl ?_
    refine j_sub [] rfl ?_
    exact w_MD_fundsIn_c44 C Rt  ((gA σ 9 x1.toNatClampNeg) - r27) hf
def MD_fundsIn (x1 : Int32) (x2 : Int32) (σ : ST) : Option (Int32) :=
  if x2 ≤ 0 then (MD_fundsIn_c15 x1 x2 σ)
  else (bd1 (MD_issuerOf x2) fun r5 =>
  if r5 = x1 then (some (1000000000 : Int32))
  else (MD_fundsIn_c15 x1 x2 σ))
set_option maxRecDepth 100000 in
set_option maxHeartbeats 4000000 in
theorem m_MD_fundsIn (l : Launch) (D : va_G) (ad : Nat → Nat) (cs : Nat → ClassId) (eE : Nat × Nat) (x1 : Int32) (x2 : Int32) (σ : ST) {res : Int32} (hf : MD_fundsIn x1 x2 σ = some res) : MS l y_MD_fundsIn (Cond.code y_MD_fundsIn b_MD_fundsIn 4 r_MD_fundsIn :: BIG) 3 65 0 0 (wfm ad cs) D (ttf cs) eE [.ref (ad 18), .int x1, .int x2] σ (PI res σ) := by
  refine MS.of (cc := b_MD_fundsIn) (maxL := 4) (ret := r_MD_fundsIn) (by decide) rfl (Nat.le_of_ble_eq_true rfl) (loc := [(0, .ref (ad 18)), (1, .int x1), (2, .int x2)]) rfl (fun X C Rt => ?_)
  unfold MD_fundsIn at hf
  refine j_iload_n C 2 rfl rfl d_MD_fundsIn_0 ?_
  refine j_if_le C d_MD_fundsIn_1 rfl (fun c1 => ?_) (fun c1 => ?_)
  · have hf := o_it c1 hf
    exact w_MD_fundsIn_c15 C Rt  x1 x2 hf
  · have hf := o_if c1 hf
    refine j_iload_n C 2 rfl rfl d_MD_fundsIn_4 ?_
    obtain ⟨r5, h5, hf⟩ := o_b1 hf
    refine j_callS C [.int x2] [] (m_MD_issuerOf _ _ _ _ _ x2 σ h5) (gdS wd_4_164 wd_4_165 wd_1_11 wc_MD_issuerOf) hy_MD_issuerOf rfl rfl (by decide) (by decide) (by decide) (by decide) (Nat.le_of_ble_eq_true rfl) d_MD_fundsIn_5 (j_kI (r := r5) (σ1 := σ) ?_)
    refine j_iload_n C 1 rfl rfl d_MD_fundsIn_8 ?_
    refine j_icmp_ne C d_MD_fundsIn_9 rfl (fun c9 => ?_) (fun c9 => ?_)
    · have hf := o_if c9 hf
      exact w_MD_fundsIn_c15 C Rt  x1 x2 hf
    · have hf := o_it c9 hf
      refine j_ldc C (v := 1000000000) (List.mem_cons_of_mem _ wd_4_167) d_MD_fundsIn_12 ?_
      have hf := Option.some.inj hf
      subst hf
      exact j_iret C Rt (Nat.zero_le _) (Nat.zero_le _) d_MD_fundsIn_14 ⟨rfl, rfl⟩
theorem d_MD_priceOf_0 : decode b_MD_priceOf 0 = .ok (.iload_n 2, 1) := by decide +kernel
theorem d_MD_priceOf_1 : decode b_MD_priceOf 1 = .ok (.i2l, 1) := by decide +kernel
theorem d_MD_priceOf_2 : decode b_MD_priceOf 2 = .ok (.aload_n 0, 1) := by decide +kernel
theorem d_MD_priceOf_3 : decode b_MD_priceOf 3 = .ok (.getfield 44, 3) := by decide +kernel
theorem d_MD_priceOf_6 : decode b_MD_priceOf 6 = .ok (.iload_n 1, 1) := by decide +kernel
theorem d_MD_priceOf_7 : decode b_MD_priceOf 7 = .ok (.iaload, 1) := by decide +kernel
theorem d_MD_priceOf_8 : decode b_MD_priceOf 8 = .ok (.i2l, 1) := by decide +kernel
theorem d_MD_priceOf_9 : decode b_MD_priceOf 9 = .ok (.lmul, 1) := by decide +kernel
theorem d_MD_priceOf_10 : decode b_MD_priceOf 10 = .ok (.aload_n 0, 1) := by decide +kernel
theorem d_MD_priceOf_11 : decode b_MD_priceOf 11 = .ok (.getfield 47, 3) := by decide +kernel
theorem d_MD_priceOf_14 : decode b_MD_priceOf 14 = .ok (.iload_n 1, 1) := by decide +kernel
theorem d_MD_priceOf_15 : decode b_MD_priceOf 15 = .ok (.iaload, 1) := by decide +kernel
theorem d_MD_priceOf_16 : decode b_MD_priceOf 16 = .ok (.i2l, 1) := by decide +kernel
theorem d_MD_priceOf_17 : decode b_MD_priceOf 17 = .ok (.ladd, 1) := by decide +kernel
theorem d_MD_priceOf_18 : decode b_MD_priceOf 18 = .ok (.lconst 1, 1) := by decide +kernel
theorem d_MD_priceOf_19 : decode b_MD_priceOf 19 = .ok (.lsub, 1) := by decide +kernel
theorem d_MD_priceOf_20 : decode b_MD_priceOf 20 = .ok (.aload_n 0, 1) := by decide +kernel
theorem d_MD_priceOf_21 : decode b_MD_priceOf 21 = .ok (.getfield 47, 3) := by decide +kernel
theorem d_MD_priceOf_24 : decode b_MD_priceOf 24 = .ok (.iload_n 1, 1) := by decide +kernel
theorem d_MD_priceOf_25 : decode b_MD_priceOf 25 = .ok (.iaload, 1) := by decide +kernel
theorem d_MD_priceOf_26 : decode b_MD_priceOf 26 = .ok (.i2l, 1) := by decide +kernel
theorem d_MD_priceOf_27 : decode b_MD_priceOf 27 = .ok (.ldiv, 1) := by decide +kernel
theorem d_MD_priceOf_28 : decode b_MD_priceOf 28 = .ok (.l2i, 1) := by decide +kernel
theorem d_MD_priceOf_29 : decode b_MD_priceOf 29 = .ok (.ireturn, 1) := by decide +kernel
def MD_priceOf (x1 : Int32) (x2 : Int32) (σ : ST) : Option (Int32) :=
  if x1 < 0 ∨ 12 ≤ x1.toNatClampNeg then none else
  if (gA σ 20 x1.toNatClampNeg).toInt64 = 0 then none else
  some (((((x2.toInt64 * (gA σ 19 x1.toNatClampNeg).toInt64) + (gA σ 20 x1.toNatClampNeg).toInt64) - (1 : Int64)) / (gA σ 20 x1.toNatClampNeg).toInt64).toInt32)
set_option maxRecDepth 100000 in
set_option maxHeartbeats 4000000 in
theorem m_MD_priceOf (l : Launch) (D : va_G) (ad : Nat → Nat) (cs : Nat → ClassId) (eE : Nat × Nat) (x1 : Int32) (x2 : Int32) (σ : ST) {res : Int32} (hf : MD_priceOf x1 x2 σ = some res) : MS l y_MD_priceOf (Cond.code y_MD_priceOf b_MD_priceOf 3 r_MD_priceOf :: BIG) 0 0 0 0 (wfm ad cs) D (ttf cs) eE [.ref (ad 18), .int x1, .int x2] σ (PI res σ) := by
  refine MS.of (cc := b_MD_priceOf) (maxL := 3) (ret := r_MD_priceOf) (by decide) rfl (Nat.le_of_ble_eq_true rfl) (loc := [(0, .ref (ad 18)), (1, .int x1), (2, .int x2)]) rfl (fun X C Rt => ?_)
  unfold MD_priceOf at hf
  refine j_iload_n C 2 rfl rfl d_MD_priceOf_0 ?_
  refine j_i2l C d_MD_priceOf_1 ?_
  refine j_aload_n C 0 rfl rfl d_MD_priceOf_2 ?_
  refine g_MD_wOf C (List.mem_cons_of_mem _ wd_4_32) d_MD_priceOf_3 ?_
  refine j_iload_n C 1 rfl rfl d_MD_priceOf_6 ?_
  obtain ⟨g7, hf⟩ := o_gn hf
  refine la_m_wOf C g7 d_MD_priceOf_7 ?_
  refine j_i2l C d_MD_priceOf_8 ?_
  refine j_lmul C d_MD_priceOf_9 ?_
  refine j_aload_n C 0 rfl rfl d_MD_priceOf_10 ?_
  refine g_MD_gOf C (List.mem_cons_of_mem _ wd_4_33) d_MD_priceOf_11 ?_
  refine j_iload_n C 1 rfl rfl d_MD_priceOf_14 ?_
  refine la_m_gOf C g7 d_MD_priceOf_15 ?_
  refine j_i2l C d_MD_priceOf_16 ?_
  refine j_ladd C d_MD_priceOf_17 ?_
  refine j_lconst C (v := 1) (by decide) d_MD_priceOf_18 ?_
  refine j_lsub C d_MD_priceOf_19 ?_
  refine j_aload_n C 0 rfl rfl d_MD_priceOf_20 ?_
  refine g_MD_gOf C (List.mem_cons_of_mem _ wd_4_33) d_MD_priceOf_21 ?_
  refine j_iload_n C 1 rfl rfl d_MD_priceOf_24 ?_
  refine la_m_gOf C g7 d_MD_priceOf_25 ?_
  refine j_i2l C d_MD_priceOf_26 ?_
  obtain ⟨g27, hf⟩ := o_gn hf
  refine j_ldiv C g27 d_MD_priceOf_27 ?_
  refine j_l2i C d_MD_priceOf_28 ?_
  have hf := Option.some.inj hf
  subst hf
  exact j_iret C Rt (Nat.zero_le _) (Nat.zero_le _) d_MD_priceOf_29 ⟨rfl, rfl⟩
theorem d_MD_canTake_0 : decode b_MD_canTake 0 = .ok (.aload_n 0, 1) := by decide +kernel
theorem d_MD_canTake_1 : decode b_MD_canTake 1 = .ok (.getfield 35, 3) := by decide +kernel
theorem d_MD_canTake_4 : decode b_MD_canTake 4 = .ok (.iload_n 1, 1) := by decide +kernel
theorem d_MD_canTake_5 : decode b_MD_canTake 5 = .ok (.iaload, 1) := by decide +kernel
theorem d_MD_canTake_6 : decode b_MD_canTake 6 = .ok (.istore 9, 2) := by decide +kernel
theorem d_MD_canTake_8 : decode b_MD_canTake 8 = .ok (.aload_n 0, 1) := by decide +kernel
theorem d_MD_canTake_9 : decode b_MD_canTake 9 = .ok (.getfield 88, 3) := by decide +kernel
theorem d_MD_canTake_12 : decode b_MD_canTake 12 = .ok (.iload 9, 2) := by decide +kernel
theorem d_MD_canTake_14 : decode b_MD_canTake 14 = .ok (.laload, 1) := by decide +kernel
theorem d_MD_canTake_15 : decode b_MD_canTake 15 = .ok (.aload_n 0, 1) := by decide +kernel
theorem d_MD_canTake_16 : decode b_MD_canTake 16 = .ok (.iload_n 2, 1) := by decide +kernel
theorem d_MD_canTake_17 : decode b_MD_canTake 17 = .ok (.i2l, 1) := by decide +kernel
theorem d_MD_canTake_18 : decode b_MD_canTake 18 = .ok (.iload 9, 2) := by decide +kernel
theorem d_MD_canTake_20 : decode b_MD_canTake 20 = .ok (.aload_n 0, 1) := by decide +kernel
theorem d_MD_canTake_21 : decode b_MD_canTake 21 = .ok (.getfield 68, 3) := by decide +kernel
theorem d_MD_canTake_24 : decode b_MD_canTake 24 = .ok (.iload 4, 2) := by decide +kernel
theorem d_MD_canTake_26 : decode b_MD_canTake 26 = .ok (.invokevirtual 166, 3) := by decide +kernel
theorem d_MD_canTake_29 : decode b_MD_canTake 29 = .ok (.ladd, 1) := by decide +kernel
theorem d_MD_canTake_30 : decode b_MD_canTake 30 = .ok (.aload_n 0, 1) := by decide +kernel
theorem d_MD_canTake_31 : decode b_MD_canTake 31 = .ok (.iload 9, 2) := by decide +kernel
theorem d_MD_canTake_33 : decode b_MD_canTake 33 = .ok (.iload 4, 2) := by decide +kernel
theorem d_MD_canTake_35 : decode b_MD_canTake 35 = .ok (.invokevirtual 154, 3) := by decide +kernel
theorem d_MD_canTake_38 : decode b_MD_canTake 38 = .ok (.i2l, 1) := by decide +kernel
theorem d_MD_canTake_39 : decode b_MD_canTake 39 = .ok (.lcmp, 1) := by decide +kernel
theorem d_MD_canTake_40 : decode b_MD_canTake 40 = .ok (.ifCond .le 5, 3) := by decide +kernel
theorem d_MD_canTake_43 : decode b_MD_canTake 43 = .ok (.iconst 0, 1) := by decide +kernel
theorem d_MD_canTake_44 : decode b_MD_canTake 44 = .ok (.ireturn, 1) := by decide +kernel
theorem d_MD_canTake_45 : decode b_MD_canTake 45 = .ok (.aload_n 0, 1) := by decide +kernel
theorem d_MD_canTake_46 : decode b_MD_canTake 46 = .ok (.iload_n 1, 1) := by decide +kernel
theorem d_MD_canTake_47 : decode b_MD_canTake 47 = .ok (.iload_n 2, 1) := by decide +kernel
theorem d_MD_canTake_48 : decode b_MD_canTake 48 = .ok (.invokevirtual 170, 3) := by decide +kernel
theorem d_MD_canTake_51 : decode b_MD_canTake 51 = .ok (.istore 10, 2) := by decide +kernel
theorem d_MD_canTake_53 : decode b_MD_canTake 53 = .ok (.lload 7, 2) := by decide +kernel
theorem d_MD_canTake_55 : decode b_MD_canTake 55 = .ok (.lconst 0, 1) := by decide +kernel
theorem d_MD_canTake_56 : decode b_MD_canTake 56 = .ok (.lcmp, 1) := by decide +kernel
theorem d_MD_canTake_57 : decode b_MD_canTake 57 = .ok (.ifCond .lt 37, 3) := by decide +kernel
theorem d_MD_canTake_60 : decode b_MD_canTake 60 = .ok (.iload 10, 2) := by decide +kernel
theorem d_MD_canTake_62 : decode b_MD_canTake 62 = .ok (.i2l, 1) := by decide +kernel
theorem d_MD_canTake_63 : decode b_MD_canTake 63 = .ok (.lload 5, 2) := by decide +kernel
theorem d_MD_canTake_65 : decode b_MD_canTake 65 = .ok (.lcmp, 1) := by decide +kernel
theorem d_MD_canTake_66 : decode b_MD_canTake 66 = .ok (.ifCond .gt 32, 3) := by decide +kernel
theorem d_MD_canTake_69 : decode b_MD_canTake 69 = .ok (.aload_n 0, 1) := by decide +kernel
theorem d_MD_canTake_70 : decode b_MD_canTake 70 = .ok (.getfield 173, 3) := by decide +kernel
theorem d_MD_canTake_73 : decode b_MD_canTake 73 = .ok (.aload_n 0, 1) := by decide +kernel
theorem d_MD_canTake_74 : decode b_MD_canTake 74 = .ok (.iload 10, 2) := by decide +kernel
theorem d_MD_canTake_76 : decode b_MD_canTake 76 = .ok (.i2l, 1) := by decide +kernel
theorem d_MD_canTake_77 : decode b_MD_canTake 77 = .ok (.aload_n 0, 1) := by decide +kernel
theorem d_MD_canTake_78 : decode b_MD_canTake 78 = .ok (.getfield 68, 3) := by decide +kernel
theorem d_MD_canTake_81 : decode b_MD_canTake 81 = .ok (.iload 9, 2) := by decide +kernel
theorem d_MD_canTake_83 : decode b_MD_canTake 83 = .ok (.iload_n 3, 1) := by decide +kernel
theorem d_MD_canTake_84 : decode b_MD_canTake 84 = .ok (.invokevirtual 166, 3) := by decide +kernel
theorem d_MD_canTake_87 : decode b_MD_canTake 87 = .ok (.ladd, 1) := by decide +kernel
theorem d_MD_canTake_88 : decode b_MD_canTake 88 = .ok (.lload 7, 2) := by decide +kernel
theorem d_MD_canTake_90 : decode b_MD_canTake 90 = .ok (.lcmp, 1) := by decide +kernel
theorem d_MD_canTake_91 : decode b_MD_canTake 91 = .ok (.ifCond .gt 7, 3) := by decide +kernel
theorem d_MD_canTake_94 : decode b_MD_canTake 94 = .ok (.iconst 1, 1) := by decide +kernel
theorem d_MD_canTake_95 : decode b_MD_canTake 95 = .ok (.goto 4, 3) := by decide +kernel
theorem d_MD_canTake_98 : decode b_MD_canTake 98 = .ok (.iconst 0, 1) := by decide +kernel
theorem d_MD_canTake_99 : decode b_MD_canTake 99 = .ok (.ireturn, 1) := by decide +kernel
def MD_canTake (x1 : Int32) (x2 : Int32) (x3 : Int32) (x4 : Int32) (x5 : Int64) (x7 : Int64) (σ : ST) : Option (Int32) :=
  if x1 < 0 ∨ 12 ≤ x1.toNatClampNeg then none else
  nmI (gA σ 16 x1.toNatClampNeg) fun x9_6 =>
  if x9_6 < 0 ∨ 6 ≤ x9_6.toNatClampNeg then none else
  bd1 (MD_costOf x2.toInt64 x9_6 (gI σ 25) x4 σ) fun r26 =>
  bd1 (MD_fundsIn x9_6 x4 σ) fun r35 =>
  if (lg_cmp ((gV σ x9_6.toNatClampNeg) + r26) r35.toInt64) ≤ 0 then (bd1 (MD_priceOf x1 x2 σ) fun r48 =>
  if (lg_cmp x7 (0 : Int64)) < 0 then (some (1 : Int32))
  else (if 0 < (lg_cmp r48.toInt64 x5) then (some (0 : Int32))
  else (bd1 (MD_costOf r48.toInt64 (gI σ 25) x9_6 x3 σ) fun r84 =>
  if 0 < (lg_cmp ((gL σ 1) + r84) x7) then (some (0 : Int32))
  else (some (1 : Int32)))))
  else (some (0 : Int32))
set_option maxRecDepth 100000 in
set_option maxHeartbeats 4000000 in
theorem m_MD_canTake (l : Launch) (D : va_G) (ad : Nat → Nat) (cs : Nat → ClassId) (eE : Nat × Nat) (x1 : Int32) (x2 : Int32) (x3 : Int32) (x4 : Int32) (x5 : Int64) (x7 : Int64) (σ : ST) {res : Int32} (hf : MD_canTake x1 x2 x3 x4 x5 x7 σ = some res) : MS l y_MD_canTake (Cond.code y_MD_canTake b_MD_canTake 11 r_MD_canTake :: BIG) 4 88 0 0 (wfm ad cs) D (ttf cs) eE [.ref (ad 18), .int x1, .int x2, .int x3, .int x4, .long x5, .long x7] σ (PI res σ) := by
  refine MS.of (cc := b_MD_canTake) (maxL := 11) (ret := r_MD_canTake) (by decide) rfl (Nat.le_of_ble_eq_true rfl) (loc := [(0, .ref (ad 18)), (1, .int x1), (2, .int x2), (3, .int x3), (4, .int x4), (5, .long x5), (7, .long x7)]) rfl (fun X C Rt => ?_)
  unfold MD_canTake at hf
  refine j_aload_n C 0 rfl rfl d_MD_canTake_0 ?_
  refine g_MD_ownerOf C (List.mem_cons_of_mem _ wd_4_29) d_MD_canTake_1 ?_
  refine j_iload_n C 1 rfl rfl d_MD_canTake_4 ?_
  obtain ⟨g5, hf⟩ := o_gn hf
  refine la_m_ownerOf C g5 d_MD_canTake_5 ?_
  obtain ⟨x9_6, ex9_6, hf⟩ := o_nmI hf
  refine j_topI ex9_6 ?_
  refine j_istore C (by decide) (loc' := [(9, .int x9_6), (0, .ref (ad 18)), (1, .int x1), (2, .int x2), (3, .int x3), (4, .int x4), (5, .long x5), (7, .long x7)]) rfl d_MD_canTake_6 ?_
  refine j_aload_n C 1 rfl rfl d_MD_canTake_8 ?_
  refine g_MD_spent C (List.mem_cons_of_mem _ wd_4_53) d_MD_canTake_9 ?_
  refine j_iload C 0 rfl d_MD_canTake_12 ?_
  obtain ⟨g14, hf⟩ := o_gn hf
  refine la_m_spent C g14 d_MD_canTake_14 ?_
  refine j_aload_n C 1 rfl rfl d_MD_canTake_15 ?_
  refine j_iload_n C 3 rfl rfl d_MD_canTake_16 ?_
  refine j_i2l C d_MD_canTake_17 ?_
  refine j_iload C 0 rfl d_MD_canTake_18 ?_
  refine j_aload_n C 1 rfl rfl d_MD_canTake_20 ?_
  refine g_MD_me C (List.mem_cons_of_mem _ wd_4_42) d_MD_canTake_21 ?_
  refine j_iload C 5 rfl d_MD_canTake_24 ?_
  obtain ⟨r26, h26, hf⟩ := o_b1 hf
  refine j_callV (ci := 10) (Cn := "TollLedgerModel") (T := T_MD) (N := 39) C [.long x2.toInt64, .int x9_6, .int (gI σ 25), .int x4] [.long (gV σ x9_6.toNatClampNeg)] (m_MD_costOf _ _ _ _ _ x2.toInt64 x9_6 (gI σ 25) x4 σ h26) (gdV wd_4_207 wd_4_209 wp_23 wd_1_11 wc_MD_costOf) hy_MD_costOf rfl ⟨18, rfl⟩ rfl rfl (by decide) (by decide) (by decide) (by decide) (Nat.le_of_ble_eq_true rfl) d_MD_canTake_26 (j_kL (r := r26) (σ1 := σ) ?_)
  refine j_ladd C d_MD_canTake_29 ?_
  refine j_aload_n C 1 rfl rfl d_MD_canTake_30 ?_
  refine j_iload C 0 rfl d_MD_canTake_31 ?_
  refine j_iload C 5 rfl d_MD_canTake_33 ?_
  obtain ⟨r35, h35, hf⟩ := o_b1 hf
  refine j_callV (ci := 10) (Cn := "TollLedgerModel") (T := T_MD) (N := 39) C [.int x9_6, .int x4] [.long ((gV σ x9_6.toNatClampNeg) + r26)] (m_MD_fundsIn _ _ _ _ _ x9_6 x4 σ h35) (gdV wd_4_160 wd_4_162 wp_18 wd_1_11 wc_MD_fundsIn) hy_MD_fundsIn rfl ⟨18, rfl⟩ rfl rfl (by decide) (by decide) (by decide) (by decide) (Nat.le_of_ble_eq_true rfl) d_MD_canTake_35 (j_kI (r := r35) (σ1 := σ) ?_)
  refine j_i2l C d_MD_canTake_38 ?_
  refine j_lcmp C d_MD_canTake_39 ?_
  refine j_if_le C d_MD_canTake_40 rfl (fun c40 => ?_) (fun c40 => ?_)
  · have hf := o_it c40 hf
    refine j_aload_n C 1 rfl rfl d_MD_canTake_45 ?_
    refine j_iload_n C 2 rfl rfl d_MD_canTake_46 ?_
    refine j_iload_n C 3 rfl rfl d_MD_canTake_47 ?_
    obtain ⟨r48, h48, hf⟩ := o_b1 hf
    refine j_callV (ci := 10) (Cn := "TollLedgerModel") (T := T_MD) (N := 39) C [.int x1, .int x2] [] (m_MD_priceOf _ _ _ _ _ x1 x2 σ h48) (gdV wd_4_233 wd_4_235 wp_29 wd_1_11 wc_MD_priceOf) hy_MD_priceOf rfl ⟨18, rfl⟩ rfl rfl (by decide) (by decide) (by decide) (by decide) (Nat.le_of_ble_eq_true rfl) d_MD_canTake_48 (j_kI (r := r48) (σ1 := σ) ?_)
    refine j_istore C (by decide) (loc' := [(10, .int r48), (9, .int x9_6), (0, .ref (ad 18)), (1, .int x1), (2, .int x2), (3, .int x3), (4, .int x4), (5, .long x5), (7, .long x7)]) rfl d_MD_canTake_51 ?_
    refine j_lload C 8 rfl d_MD_canTake_53 ?_
    refine j_lconst C (v := 0) (by decide) d_MD_canTake_55 ?_
    refine j_lcmp C d_MD_canTake_56 ?_
    refine j_if_lt C d_MD_canTake_57 rfl (fun c57 => ?_) (fun c57 => ?_)
    · have hf := o_it c57 hf
      refine j_iconst C (v := 1) (by decide) d_MD_canTake_94 ?_
      refine j_goto C d_MD_canTake_95 rfl ?_
      have hf := Option.some.inj hf
      subst hf
      exact j_zret C Rt (by decide) (Nat.zero_le _) (Nat.zero_le _) d_MD_canTake_99 ⟨rfl, rfl⟩
    · have hf := o_if c57 hf
      refine j_iload C 0 rfl d_MD_canTake_60 ?_
      refine j_i2l C d_MD_canTake_62 ?_
      refine j_lload C 7 rfl d_MD_canTake_63 ?_
      refine j_lcmp C d_MD_canTake_65 ?_
      refine j_if_gt C d_MD_canTake_66 rfl (fun c66 => ?_) (fun c66 => ?_)
      · have hf := o_it c66 hf
        refine j_iconst C (v := 0) (by decide) d_MD_canTake_98 ?_
        have hf := Option.some.inj hf
        subst hf
        exact j_zret C Rt (by decide) (Nat.zero_le _) (Nat.zero_le _) d_MD_canTake_99 ⟨rfl, rfl⟩
      · have hf := o_if c66 hf
        refine j_aload_n C 2 rfl rfl d_MD_canTake_69 ?_
        refine g_MD_costSum C (List.mem_cons_of_mem _ wd_4_56) d_MD_canTake_70 ?_
        refine j_aload_n C 2 rfl rfl d_MD_canTake_73 ?_
        refine j_iload C 0 rfl d_MD_canTake_74 ?_
        refine j_i2l C d_MD_canTake_76 ?_
        refine j_aload_n C 2 rfl rfl d_MD_canTake_77 ?_
        refine g_MD_me C (List.mem_cons_of_mem _ wd_4_42) d_MD_canTake_78 ?_
        refine j_iload C 1 rfl d_MD_canTake_81 ?_
        refine j_iload_n C 5 rfl rfl d_MD_canTake_83 ?_
        obtain ⟨r84, h84, hf⟩ := o_b1 hf
        refine j_callV (ci := 10) (Cn := "TollLedgerModel") (T := T_MD) (N := 39) C [.long r48.toInt64, .int (gI σ 25), .int x9_6, .int x3] [.long (gL σ 1)] (m_MD_costOf _ _ _ _ _ r48.toInt64 (gI σ 25) x9_6 x3 σ h84) (gdV wd_4_207 wd_4_209 wp_23 wd_1_11 wc_MD_costOf) hy_MD_costOf rfl ⟨18, rfl⟩ rfl rfl (by decide) (by decide) (by decide) (by decide) (Nat.le_of_ble_eq_true rfl) d_MD_canTake_84 (j_kL (r := r84) (σ1 := σ) ?_)
        refine j_ladd C d_MD_canTake_87 ?_
        refine j_lload C 8 rfl d_MD_canTake_88 ?_
        refine j_lcmp C d_MD_canTake_90 ?_
        refine j_if_gt C d_MD_canTake_91 rfl (fun c91 => ?_) (fun c91 => ?_)
        · have hf := o_it c91 hf
          refine j_iconst C (v := 0) (by decide) d_MD_canTake_98 ?_
          have hf := Option.some.inj hf
          subst hf
          exact j_zret C Rt (by decide) (Nat.zero_le _) (Nat.zero_le _) d_MD_canTake_99 ⟨rfl, rfl⟩
        · have hf := o_if c91 hf
          refine j_iconst C (v := 1) (by decide) d_MD_canTake_94 ?_
          refine j_goto C d_MD_canTake_95 rfl ?_
          have hf := Option.some.inj hf
          subst hf
          exact j_zret C Rt (by decide) (Nat.zero_le _) (Nat.zero_le _) d_MD_canTake_99 ⟨rfl, rfl⟩
  · have hf := o_if c40 hf
    refine j_iconst C (v := 0) (by decide) d_MD_canTake_43 ?_
    have hf := Option.some.inj hf
    subst hf
    exact j_zret C Rt (by decide) (Nat.zero_le _) (Nat.zero_le _) d_MD_canTake_44 ⟨rfl, rfl⟩
theorem d_MD_findOffer_0 : decode b_MD_findOffer 0 = .ok (.iconst (-1), 1) := by decide +kernel
theorem d_MD_findOffer_1 : decode b_MD_findOffer 1 = .ok (.istore_n 2, 1) := by decide +kernel
theorem d_MD_findOffer_2 : decode b_MD_findOffer 2 = .ok (.iconst 0, 1) := by decide +kernel
theorem d_MD_findOffer_3 : decode b_MD_findOffer 3 = .ok (.istore_n 3, 1) := by decide +kernel
theorem d_MD_findOffer_4 : decode b_MD_findOffer 4 = .ok (.iload_n 3, 1) := by decide +kernel
theorem d_MD_findOffer_5 : decode b_MD_findOffer 5 = .ok (.aload_n 0, 1) := by decide +kernel
theorem d_MD_findOffer_6 : decode b_MD_findOffer 6 = .ok (.getfield 110, 3) := by decide +kernel
theorem d_MD_findOffer_9 : decode b_MD_findOffer 9 = .ok (.if_icmp .ge 25, 3) := by decide +kernel
theorem d_MD_findOffer_12 : decode b_MD_findOffer 12 = .ok (.aload_n 0, 1) := by decide +kernel
theorem d_MD_findOffer_13 : decode b_MD_findOffer 13 = .ok (.getfield 32, 3) := by decide +kernel
theorem d_MD_findOffer_16 : decode b_MD_findOffer 16 = .ok (.iload_n 3, 1) := by decide +kernel
theorem d_MD_findOffer_17 : decode b_MD_findOffer 17 = .ok (.iaload, 1) := by decide +kernel
theorem d_MD_findOffer_18 : decode b_MD_findOffer 18 = .ok (.iload_n 1, 1) := by decide +kernel
theorem d_MD_findOffer_19 : decode b_MD_findOffer 19 = .ok (.if_icmp .ne 7, 3) := by decide +kernel
theorem d_MD_findOffer_22 : decode b_MD_findOffer 22 = .ok (.iload_n 3, 1) := by decide +kernel
theorem d_MD_findOffer_23 : decode b_MD_findOffer 23 = .ok (.goto 4, 3) := by decide +kernel
theorem d_MD_findOffer_26 : decode b_MD_findOffer 26 = .ok (.iload_n 2, 1) := by decide +kernel
theorem d_MD_findOffer_27 : decode b_MD_findOffer 27 = .ok (.istore_n 2, 1) := by decide +kernel
theorem d_MD_findOffer_28 : decode b_MD_findOffer 28 = .ok (.iinc 3 1, 3) := by decide +kernel
theorem d_MD_findOffer_31 : decode b_MD_findOffer 31 = .ok (.goto (-27), 3) := by decide +kernel
theorem d_MD_findOffer_34 : decode b_MD_findOffer 34 = .ok (.iload_n 2, 1) := by decide +kernel
theorem d_MD_findOffer_35 : decode b_MD_findOffer 35 = .ok (.ireturn, 1) := by decide +kernel
def MD_findOffer_b4 (kb4 : Int32 → Int32 → Int32 → ST → Option (Int32)) (x1 : Int32) (x2 : Int32) (x3 : Int32) (σ : ST) : Option (Int32) :=
  if (gI σ 21) ≤ x3 then (some x2)
  else (if x3 < 0 ∨ 12 ≤ x3.toNatClampNeg then none else
  if (gA σ 15 x3.toNatClampNeg) = x1 then (kb4 x1 x3 (x3 + 1) σ)
  else (kb4 x1 x2 (x3 + 1) σ))
set_option maxRecDepth 100000 in
set_option maxHeartbeats 4000000 in
theorem w_MD_findOffer_b4 {X : JX} (C : JC X l D (ttf cs) eE b_MD_findOffer "TollLedgerModel" 4 (Cond.code y_MD_findOffer b_MD_findOffer 4 r_MD_findOffer :: BIG) 0 0 0 0) {σ : ST} {res : Int32} (Rt : JR X (wfm ad cs) 0 0 (PI res σ) r_MD_findOffer "findOffer") {kb4 : Int32 → Int32 → Int32 → ST → Option (Int32)} (hk4 : ∀ (x1 : Int32) (x2 : Int32) (x3 : Int32), kb4 x1 x2 x3 σ = some res → J (wfm ad cs) X 4 0 0 σ 4 [(0, .ref (ad 18)), (1, .int x1), (2, .int x2), (3, .int x3)] []) (x1 : Int32) (x2 : Int32) (x3 : Int32) (hf : MD_findOffer_b4 kb4 x1 x2 x3 σ = some res) : J (wfm ad cs) X 4 0 0 σ 4 [(0, .ref (ad 18)), (1, .int x1), (2, .int x2), (3, .int x3)] [] := by
  unfold MD_findOffer_b4 at hf
  refine j_iload_n C 3 rfl rfl d_MD_findOffer_4 ?_
  refine j_aload_n C 0 rfl rfl d_MD_findOffer_5 ?_
  refine g_MD_offers C (List.mem_cons_of_mem _ wd_4_26) d_MD_findOffer_6 ?_
  refine j_icmp_ge C d_MD_findOffer_9 rfl (fun c9 => ?_) (fun c9 => ?_)
  · have hf := o_it c9 hf
    refine j_iload_n C 2 rfl rfl d_MD_findOffer_34 ?_
    have hf := Option.some.inj hf
    subst hf
    exact j_iret C Rt (Nat.zero_le _) (Nat.zero_le _) d_MD_findOffer_35 ⟨rfl, rfl⟩
  · have hf := o_if c9 hf
    refine j_aload_n C 0 rfl rfl d_MD_findOffer_12 ?_
    refine g_MD_offerId C (List.mem_cons_of_mem _ wd_4_28) d_MD_findOffer_13 ?_
    refine j_iload_n C 3 rfl rfl d_MD_findOffer_16 ?_
    obtain ⟨g17, hf⟩ := o_gn hf
    refine la_m_offerId C g17 d_MD_findOffer_17 ?_
    refine j_iload_n C 1 rfl rfl d_MD_findOffer_18 ?_
    refine j_icmp_ne C d_MD_findOffer_19 rfl (fun c19 => ?_) (fun c19 => ?_)
    · have hf := o_if c19 hf
      refine j_iload_n C 2 rfl rfl d_MD_findOffer_26 ?_
      refine j_istore_n C rfl (by decide) (loc' := [(2, .int x2), (0, .ref (ad 18)), (1, .int x1), (3, .int x3)]) rfl d_MD_findOffer_27 ?_
      refine j_iinc C 3 rfl (v := (x3 + 1)) (inc_p1 _) (by decide) (loc' := [(3, .int (x3 + 1)), (2, .int x2), (0, .ref (ad 18)), (1, .int x1)]) rfl d_MD_findOffer_28 ?_
      refine j_goto C d_MD_findOffer_31 rfl ?_
      refine j_sub [2, 3, 1, 0] rfl ?_
      exact hk4 x1 x2 (x3 + 1) hf
    · have hf := o_it c19 hf
      refine j_iload_n C 3 rfl rfl d_MD_findOffer_22 ?_
      refine j_goto C d_MD_findOffer_23 rfl ?_
      refine j_istore_n C rfl (by decide) (loc' := [(2, .int x3), (0, .ref (ad 18)), (1, .int x1), (3, .int x3)]) rfl d_MD_findOffer_27 ?_
      refine j_iinc C 3 rfl (v := (x3 + 1)) (inc_p1 _) (by decide) (loc' := [(3, .int (x3 + 1)), (2, .int x3), (0, .ref (ad 18)), (1, .int x1)]) rfl d_MD_findOffer_28 ?_
      refine j_goto C d_MD_findOffer_31 rfl ?_
      refine j_sub [2, 3, 1, 0] rfl ?_
      exact hk4 x1 x3 (x3 + 1) hf
def MD_findOffer_L4 : Nat → Int32 → Int32 → Int32 → ST → Option (Int32)
  | 0, _, _, _, _ => none
  | N + 1, x1, x2, x3, σ => MD_findOffer_b4 (fun x1 x2 x3 σ => MD_findOffer_L4 N x1 x2 x3 σ) x1 x2 x3 σ
theorem w_MD_findOffer_L4 {X : JX} (C : JC X l D (ttf cs) eE b_MD_findOffer "TollLedgerModel" 4 (Cond.code y_MD_findOffer b_MD_findOffer 4 r_MD_findOffer :: BIG) 0 0 0 0) {σ : ST} {res : Int32} (Rt : JR X (wfm ad cs) 0 0 (PI res σ) r_MD_findOffer "findOffer")  (N : Nat) (x1 : Int32) (x2 : Int32) (x3 : Int32) (hf : MD_findOffer_L4 N x1 x2 x3 σ = some res) : J (wfm ad cs) X 4 0 0 σ 4 [(0, .ref (ad 18)), (1, .int x1), (2, .int x2), (3, .int x3)] [] := by
  induction N generalizing x1 x2 x3 with
  | zero => exact nomatch hf
  | succ N ih => exact w_MD_findOffer_b4 C Rt  (fun x1 x2 x3 h => ih x1 x2 x3 h) x1 x2 x3 hf
def MD_findOffer (x1 : Int32) (σ : ST) : Option (Int32) :=
  MD_findOffer_L4 FU x1 (-1 : Int32) (0 : Int32) σ
set_option maxRecDepth 100000 in
set_option maxHeartbeats 4000000 in
theorem m_MD_findOffer (l : Launch) (D : va_G) (ad : Nat → Nat) (cs : Nat → ClassId) (eE : Nat × Nat) (x1 : Int32) (σ : ST) {res : Int32} (hf : MD_findOffer x1 σ = some res) : MS l y_MD_findOffer (Cond.code y_MD_findOffer b_MD_findOffer 4 r_MD_findOffer :: BIG) 0 0 0 0 (wfm ad cs) D (ttf cs) eE [.ref (ad 18), .int x1] σ (PI res σ) := by
  refine MS.of (cc := b_MD_findOffer) (maxL := 4) (ret := r_MD_findOffer) (by decide) rfl (Nat.le_of_ble_eq_true rfl) (loc := [(0, .ref (ad 18)), (1, .int x1)]) rfl (fun X C Rt => ?_)
  unfold MD_findOffer at hf
  refine j_iconst C (v := -1) (by decide) d_MD_findOffer_0 ?_
  refine j_istore_n C rfl (by decide) (loc' := [(2, .int (-1 : Int32)), (0, .ref (ad 18)), (1, .int x1)]) rfl d_MD_findOffer_1 ?_
  refine j_iconst C (v := 0) (by decide) d_MD_findOffer_2 ?_
  refine j_istore_n C rfl (by decide) (loc' := [(3, .int (0 : Int32)), (2, .int (-1 : Int32)), (0, .ref (ad 18)), (1, .int x1)]) rfl d_MD_findOffer_3 ?_
  refine j_sub [2, 3, 1, 0] rfl ?_
  exact w_MD_findOffer_L4 C Rt  FU x1 (-1 : Int32) (0 : Int32) hf
theorem d_MD_moveOffer_0 : decode b_MD_moveOffer 0 = .ok (.aload_n 0, 1) := by decide +kernel
theorem d_MD_moveOffer_1 : decode b_MD_moveOffer 1 = .ok (.getfield 32, 3) := by decide +kernel
theorem d_MD_moveOffer_4 : decode b_MD_moveOffer 4 = .ok (.iload_n 2, 1) := by decide +kernel
theorem d_MD_moveOffer_5 : decode b_MD_moveOffer 5 = .ok (.aload_n 0, 1) := by decide +kernel
theorem d_MD_moveOffer_6 : decode b_MD_moveOffer 6 = .ok (.getfield 32, 3) := by decide +kernel
theorem d_MD_moveOffer_9 : decode b_MD_moveOffer 9 = .ok (.iload_n 1, 1) := by decide +kernel
theorem d_MD_moveOffer_10 : decode b_MD_moveOffer 10 = .ok (.iaload, 1) := by decide +kernel
theorem d_MD_moveOffer_11 : decode b_MD_moveOffer 11 = .ok (.iastore, 1) := by decide +kernel
theorem d_MD_moveOffer_12 : decode b_MD_moveOffer 12 = .ok (.aload_n 0, 1) := by decide +kernel
theorem d_MD_moveOffer_13 : decode b_MD_moveOffer 13 = .ok (.getfield 35, 3) := by decide +kernel
theorem d_MD_moveOffer_16 : decode b_MD_moveOffer 16 = .ok (.iload_n 2, 1) := by decide +kernel
theorem d_MD_moveOffer_17 : decode b_MD_moveOffer 17 = .ok (.aload_n 0, 1) := by decide +kernel
theorem d_MD_moveOffer_18 : decode b_MD_moveOffer 18 = .ok (.getfield 35, 3) := by decide +kernel
theorem d_MD_moveOffer_21 : decode b_MD_moveOffer 21 = .ok (.iload_n 1, 1) := by decide +kernel
theorem d_MD_moveOffer_22 : decode b_MD_moveOffer 22 = .ok (.iaload, 1) := by decide +kernel
theorem d_MD_moveOffer_23 : decode b_MD_moveOffer 23 = .ok (.iastore, 1) := by decide +kernel
theorem d_MD_moveOffer_24 : decode b_MD_moveOffer 24 = .ok (.aload_n 0, 1) := by decide +kernel
theorem d_MD_moveOffer_25 : decode b_MD_moveOffer 25 = .ok (.getfield 38, 3) := by decide +kernel
theorem d_MD_moveOffer_28 : decode b_MD_moveOffer 28 = .ok (.iload_n 2, 1) := by decide +kernel
theorem d_MD_moveOffer_29 : decode b_MD_moveOffer 29 = .ok (.aload_n 0, 1) := by decide +kernel
theorem d_MD_moveOffer_30 : decode b_MD_moveOffer 30 = .ok (.getfield 38, 3) := by decide +kernel
theorem d_MD_moveOffer_33 : decode b_MD_moveOffer 33 = .ok (.iload_n 1, 1) := by decide +kernel
theorem d_MD_moveOffer_34 : decode b_MD_moveOffer 34 = .ok (.iaload, 1) := by decide +kernel
theorem d_MD_moveOffer_35 : decode b_MD_moveOffer 35 = .ok (.iastore, 1) := by decide +kernel
theorem d_MD_moveOffer_36 : decode b_MD_moveOffer 36 = .ok (.aload_n 0, 1) := by decide +kernel
theorem d_MD_moveOffer_37 : decode b_MD_moveOffer 37 = .ok (.getfield 41, 3) := by decide +kernel
theorem d_MD_moveOffer_40 : decode b_MD_moveOffer 40 = .ok (.iload_n 2, 1) := by decide +kernel
theorem d_MD_moveOffer_41 : decode b_MD_moveOffer 41 = .ok (.aload_n 0, 1) := by decide +kernel
theorem d_MD_moveOffer_42 : decode b_MD_moveOffer 42 = .ok (.getfield 41, 3) := by decide +kernel
theorem d_MD_moveOffer_45 : decode b_MD_moveOffer 45 = .ok (.iload_n 1, 1) := by decide +kernel
theorem d_MD_moveOffer_46 : decode b_MD_moveOffer 46 = .ok (.iaload, 1) := by decide +kernel
theorem d_MD_moveOffer_47 : decode b_MD_moveOffer 47 = .ok (.iastore, 1) := by decide +kernel
theorem d_MD_moveOffer_48 : decode b_MD_moveOffer 48 = .ok (.aload_n 0, 1) := by decide +kernel
theorem d_MD_moveOffer_49 : decode b_MD_moveOffer 49 = .ok (.getfield 44, 3) := by decide +kernel
theorem d_MD_moveOffer_52 : decode b_MD_moveOffer 52 = .ok (.iload_n 2, 1) := by decide +kernel
theorem d_MD_moveOffer_53 : decode b_MD_moveOffer 53 = .ok (.aload_n 0, 1) := by decide +kernel
theorem d_MD_moveOffer_54 : decode b_MD_moveOffer 54 = .ok (.getfield 44, 3) := by decide +kernel
theorem d_MD_moveOffer_57 : decode b_MD_moveOffer 57 = .ok (.iload_n 1, 1) := by decide +kernel
theorem d_MD_moveOffer_58 : decode b_MD_moveOffer 58 = .ok (.iaload, 1) := by decide +kernel
theorem d_MD_moveOffer_59 : decode b_MD_moveOffer 59 = .ok (.iastore, 1) := by decide +kernel
theorem d_MD_moveOffer_60 : decode b_MD_moveOffer 60 = .ok (.aload_n 0, 1) := by decide +kernel
theorem d_MD_moveOffer_61 : decode b_MD_moveOffer 61 = .ok (.getfield 47, 3) := by decide +kernel
theorem d_MD_moveOffer_64 : decode b_MD_moveOffer 64 = .ok (.iload_n 2, 1) := by decide +kernel
theorem d_MD_moveOffer_65 : decode b_MD_moveOffer 65 = .ok (.aload_n 0, 1) := by decide +kernel
theorem d_MD_moveOffer_66 : decode b_MD_moveOffer 66 = .ok (.getfield 47, 3) := by decide +kernel
theorem d_MD_moveOffer_69 : decode b_MD_moveOffer 69 = .ok (.iload_n 1, 1) := by decide +kernel
theorem d_MD_moveOffer_70 : decode b_MD_moveOffer 70 = .ok (.iaload, 1) := by decide +kernel
theorem d_MD_moveOffer_71 : decode b_MD_moveOffer 71 = .ok (.iastore, 1) := by decide +kernel
theorem d_MD_moveOffer_72 : decode b_MD_moveOffer 72 = .ok (.return_, 1) := by decide +kernel
def MD_moveOffer (x1 : Int32) (x2 : Int32) (σ : ST) : Option (ST) :=
  if x1 < 0 ∨ 12 ≤ x1.toNatClampNeg then none else
  if x2 < 0 ∨ 12 ≤ x2.toNatClampNeg then none else
  nmS (sA σ 15 x2.toNatClampNeg (gA σ 15 x1.toNatClampNeg)) fun σ11 =>
  nmS (sA σ11 16 x2.toNatClampNeg (gA σ11 16 x1.toNatClampNeg)) fun σ23 =>
  nmS (sA σ23 17 x2.toNatClampNeg (gA σ23 17 x1.toNatClampNeg)) fun σ35 =>
  nmS (sA σ35 18 x2.toNatClampNeg (gA σ35 18 x1.toNatClampNeg)) fun σ47 =>
  nmS (sA σ47 19 x2.toNatClampNeg (gA σ47 19 x1.toNatClampNeg)) fun σ59 =>
  nmS (sA σ59 20 x2.toNatClampNeg (gA σ59 20 x1.toNatClampNeg)) fun σ71 =>
  some σ71
set_option maxRecDepth 100000 in
set_option maxHeartbeats 4000000 in
theorem m_MD_moveOffer (l : Launch) (D : va_G) (ad : Nat → Nat) (cs : Nat → ClassId) (eE : Nat × Nat) (x1 : Int32) (x2 : Int32) (σ : ST) {res : ST} (hf : MD_moveOffer x1 x2 σ = some res) : MS l y_MD_moveOffer (Cond.code y_MD_moveOffer b_MD_moveOffer 3 r_MD_moveOffer :: BIG) 0 0 0 0 (wfm ad cs) D (ttf cs) eE [.ref (ad 18), .int x1, .int x2] σ (PV res) := by
  refine MS.of (cc := b_MD_moveOffer) (maxL := 3) (ret := r_MD_moveOffer) (by decide) rfl (Nat.le_of_ble_eq_true rfl) (loc := [(0, .ref (ad 18)), (1, .int x1), (2, .int x2)]) rfl (fun X C Rt => ?_)
  unfold MD_moveOffer at hf
  refine j_aload_n C 0 rfl rfl d_MD_moveOffer_0 ?_
  refine g_MD_offerId C (List.mem_cons_of_mem _ wd_4_28) d_MD_moveOffer_1 ?_
  refine j_iload_n C 2 rfl rfl d_MD_moveOffer_4 ?_
  refine j_aload_n C 0 rfl rfl d_MD_moveOffer_5 ?_
  refine g_MD_offerId C (List.mem_cons_of_mem _ wd_4_28) d_MD_moveOffer_6 ?_
  refine j_iload_n C 1 rfl rfl d_MD_moveOffer_9 ?_
  obtain ⟨g10, hf⟩ := o_gn hf
  refine la_m_offerId C g10 d_MD_moveOffer_10 ?_
  obtain ⟨g11, hf⟩ := o_gn hf
  obtain ⟨σ11, eσ11, hf⟩ := o_nmS hf
  refine sa_m_offerId C g11 eσ11 d_MD_moveOffer_11 ?_
  refine j_aload_n C 0 rfl rfl d_MD_moveOffer_12 ?_
  refine g_MD_ownerOf C (List.mem_cons_of_mem _ wd_4_29) d_MD_moveOffer_13 ?_
  refine j_iload_n C 2 rfl rfl d_MD_moveOffer_16 ?_
  refine j_aload_n C 0 rfl rfl d_MD_moveOffer_17 ?_
  refine g_MD_ownerOf C (List.mem_cons_of_mem _ wd_4_29) d_MD_moveOffer_18 ?_
  refine j_iload_n C 1 rfl rfl d_MD_moveOffer_21 ?_
  refine la_m_ownerOf C g10 d_MD_moveOffer_22 ?_
  obtain ⟨σ23, eσ23, hf⟩ := o_nmS hf
  refine sa_m_ownerOf C g11 eσ23 d_MD_moveOffer_23 ?_
  refine j_aload_n C 0 rfl rfl d_MD_moveOffer_24 ?_
  refine g_MD_wantsOf C (List.mem_cons_of_mem _ wd_4_30) d_MD_moveOffer_25 ?_
  refine j_iload_n C 2 rfl rfl d_MD_moveOffer_28 ?_
  refine j_aload_n C 0 rfl rfl d_MD_moveOffer_29 ?_
  refine g_MD_wantsOf C (List.mem_cons_of_mem _ wd_4_30) d_MD_moveOffer_30 ?_
  refine j_iload_n C 1 rfl rfl d_MD_moveOffer_33 ?_
  refine la_m_wantsOf C g10 d_MD_moveOffer_34 ?_
  obtain ⟨σ35, eσ35, hf⟩ := o_nmS hf
  refine sa_m_wantsOf C g11 eσ35 d_MD_moveOffer_35 ?_
  refine j_aload_n C 0 rfl rfl d_MD_moveOffer_36 ?_
  refine g_MD_givesOf C (List.mem_cons_of_mem _ wd_4_31) d_MD_moveOffer_37 ?_
  refine j_iload_n C 2 rfl rfl d_MD_moveOffer_40 ?_
  refine j_aload_n C 0 rfl rfl d_MD_moveOffer_41 ?_
  refine g_MD_givesOf C (List.mem_cons_of_mem _ wd_4_31) d_MD_moveOffer_42 ?_
  refine j_iload_n C 1 rfl rfl d_MD_moveOffer_45 ?_
  refine la_m_givesOf C g10 d_MD_moveOffer_46 ?_
  obtain ⟨σ47, eσ47, hf⟩ := o_nmS hf
  refine sa_m_givesOf C g11 eσ47 d_MD_moveOffer_47 ?_
  refine j_aload_n C 0 rfl rfl d_MD_moveOffer_48 ?_
  refine g_MD_wOf C (List.mem_cons_of_mem _ wd_4_32) d_MD_moveOffer_49 ?_
  refine j_iload_n C 2 rfl rfl d_MD_moveOffer_52 ?_
  refine j_aload_n C 0 rfl rfl d_MD_moveOffer_53 ?_
  refine g_MD_wOf C (List.mem_cons_of_mem _ wd_4_32) d_MD_moveOffer_54 ?_
  refine j_iload_n C 1 rfl rfl d_MD_moveOffer_57 ?_
  refine la_m_wOf C g10 d_MD_moveOffer_58 ?_
  obtain ⟨σ59, eσ59, hf⟩ := o_nmS hf
  refine sa_m_wOf C g11 eσ59 d_MD_moveOffer_59 ?_
  refine j_aload_n C 0 rfl rfl d_MD_moveOffer_60 ?_
  refine g_MD_gOf C (List.mem_cons_of_mem _ wd_4_33) d_MD_moveOffer_61 ?_
  refine j_iload_n C 2 rfl rfl d_MD_moveOffer_64 ?_
  refine j_aload_n C 0 rfl rfl d_MD_moveOffer_65 ?_
  refine g_MD_gOf C (List.mem_cons_of_mem _ wd_4_33) d_MD_moveOffer_66 ?_
  refine j_iload_n C 1 rfl rfl d_MD_moveOffer_69 ?_
  refine la_m_gOf C g10 d_MD_moveOffer_70 ?_
  obtain ⟨σ71, eσ71, hf⟩ := o_nmS hf
  refine sa_m_gOf C g11 eσ71 d_MD_moveOffer_71 ?_
  have hf := Option.some.inj hf
  subst hf
  exact j_vret C Rt (Nat.zero_le _) (Nat.zero_le _) d_MD_moveOffer_72 ⟨rfl, rfl⟩
theorem d_MD_cancel_0 : decode b_MD_cancel 0 = .ok (.aload_n 0, 1) := by decide +kernel
theorem d_MD_cancel_1 : decode b_MD_cancel 1 = .ok (.iload_n 1, 1) := by decide +kernel
theorem d_MD_cancel_2 : decode b_MD_cancel 2 = .ok (.iconst 1, 1) := by decide +kernel
theorem d_MD_cancel_3 : decode b_MD_cancel 3 = .ok (.if_icmp .lt 7, 3) := by decide +kernel
theorem d_MD_cancel_6 : decode b_MD_cancel 6 = .ok (.iconst 1, 1) := by decide +kernel
theorem d_MD_cancel_7 : decode b_MD_cancel 7 = .ok (.goto 4, 3) := by decide +kernel
theorem d_MD_cancel_10 : decode b_MD_cancel 10 = .ok (.iconst 0, 1) := by decide +kernel
theorem d_MD_cancel_11 : decode b_MD_cancel 11 = .ok (.invokevirtual 150, 3) := by decide +kernel
theorem d_MD_cancel_14 : decode b_MD_cancel 14 = .ok (.istore_n 2, 1) := by decide +kernel
theorem d_MD_cancel_15 : decode b_MD_cancel 15 = .ok (.iload_n 2, 1) := by decide +kernel
theorem d_MD_cancel_16 : decode b_MD_cancel 16 = .ok (.ifCond .eq 5, 3) := by decide +kernel
theorem d_MD_cancel_19 : decode b_MD_cancel 19 = .ok (.iload_n 2, 1) := by decide +kernel
theorem d_MD_cancel_20 : decode b_MD_cancel 20 = .ok (.ireturn, 1) := by decide +kernel
theorem d_MD_cancel_21 : decode b_MD_cancel 21 = .ok (.aload_n 0, 1) := by decide +kernel
theorem d_MD_cancel_22 : decode b_MD_cancel 22 = .ok (.iload_n 1, 1) := by decide +kernel
theorem d_MD_cancel_23 : decode b_MD_cancel 23 = .ok (.invokevirtual 221, 3) := by decide +kernel
theorem d_MD_cancel_26 : decode b_MD_cancel 26 = .ok (.istore_n 3, 1) := by decide +kernel
theorem d_MD_cancel_27 : decode b_MD_cancel 27 = .ok (.iload_n 3, 1) := by decide +kernel
theorem d_MD_cancel_28 : decode b_MD_cancel 28 = .ok (.ifCond .lt 16, 3) := by decide +kernel
theorem d_MD_cancel_31 : decode b_MD_cancel 31 = .ok (.aload_n 0, 1) := by decide +kernel
theorem d_MD_cancel_32 : decode b_MD_cancel 32 = .ok (.getfield 35, 3) := by decide +kernel
theorem d_MD_cancel_35 : decode b_MD_cancel 35 = .ok (.iload_n 3, 1) := by decide +kernel
theorem d_MD_cancel_36 : decode b_MD_cancel 36 = .ok (.iaload, 1) := by decide +kernel
theorem d_MD_cancel_37 : decode b_MD_cancel 37 = .ok (.aload_n 0, 1) := by decide +kernel
theorem d_MD_cancel_38 : decode b_MD_cancel 38 = .ok (.getfield 68, 3) := by decide +kernel
theorem d_MD_cancel_41 : decode b_MD_cancel 41 = .ok (.if_icmp .eq 6, 3) := by decide +kernel
theorem d_MD_cancel_44 : decode b_MD_cancel 44 = .ok (.bipush 26, 2) := by decide +kernel
theorem d_MD_cancel_46 : decode b_MD_cancel 46 = .ok (.ireturn, 1) := by decide +kernel
theorem d_MD_cancel_47 : decode b_MD_cancel 47 = .ok (.aload_n 0, 1) := by decide +kernel
theorem d_MD_cancel_48 : decode b_MD_cancel 48 = .ok (.dup, 1) := by decide +kernel
theorem d_MD_cancel_49 : decode b_MD_cancel 49 = .ok (.getfield 110, 3) := by decide +kernel
theorem d_MD_cancel_52 : decode b_MD_cancel 52 = .ok (.iconst 1, 1) := by decide +kernel
theorem d_MD_cancel_53 : decode b_MD_cancel 53 = .ok (.isub, 1) := by decide +kernel
theorem d_MD_cancel_54 : decode b_MD_cancel 54 = .ok (.putfield 110, 3) := by decide +kernel
theorem d_MD_cancel_57 : decode b_MD_cancel 57 = .ok (.iload_n 3, 1) := by decide +kernel
theorem d_MD_cancel_58 : decode b_MD_cancel 58 = .ok (.istore 4, 2) := by decide +kernel
theorem d_MD_cancel_60 : decode b_MD_cancel 60 = .ok (.iload 4, 2) := by decide +kernel
theorem d_MD_cancel_62 : decode b_MD_cancel 62 = .ok (.aload_n 0, 1) := by decide +kernel
theorem d_MD_cancel_63 : decode b_MD_cancel 63 = .ok (.getfield 110, 3) := by decide +kernel
theorem d_MD_cancel_66 : decode b_MD_cancel 66 = .ok (.if_icmp .ge 19, 3) := by decide +kernel
theorem d_MD_cancel_69 : decode b_MD_cancel 69 = .ok (.aload_n 0, 1) := by decide +kernel
theorem d_MD_cancel_70 : decode b_MD_cancel 70 = .ok (.iload 4, 2) := by decide +kernel
theorem d_MD_cancel_72 : decode b_MD_cancel 72 = .ok (.iconst 1, 1) := by decide +kernel
theorem d_MD_cancel_73 : decode b_MD_cancel 73 = .ok (.iadd, 1) := by decide +kernel
theorem d_MD_cancel_74 : decode b_MD_cancel 74 = .ok (.iload 4, 2) := by decide +kernel
theorem d_MD_cancel_76 : decode b_MD_cancel 76 = .ok (.invokevirtual 198, 3) := by decide +kernel
theorem d_MD_cancel_79 : decode b_MD_cancel 79 = .ok (.iinc 4 1, 3) := by decide +kernel
theorem d_MD_cancel_82 : decode b_MD_cancel 82 = .ok (.goto (-22), 3) := by decide +kernel
theorem d_MD_cancel_85 : decode b_MD_cancel 85 = .ok (.iconst 0, 1) := by decide +kernel
theorem d_MD_cancel_86 : decode b_MD_cancel 86 = .ok (.ireturn, 1) := by decide +kernel
def MD_cancel_b60 (kb60 : Int32 → ST → Option (Int32 × ST)) (x4 : Int32) (σ : ST) : Option (Int32 × ST) :=
  if (gI σ 21) ≤ x4 then (some ((0 : Int32), σ))
  else (bd1 (MD_moveOffer (x4 + (1 : Int32)) x4 σ) fun σ76 =>
  kb60 (x4 + 1) σ76)
set_option maxRecDepth 100000 in
set_option maxHeartbeats 4000000 in
theorem w_MD_cancel_b60 {X : JX} (C : JC X l D (ttf cs) eE b_MD_cancel "TollLedgerModel" 5 (Cond.code y_MD_cancel b_MD_cancel 5 r_MD_cancel :: BIG) 1 23 0 0) {res : Int32 × ST} (Rt : JR X (wfm ad cs) 0 0 (PI res.1 res.2) r_MD_cancel "cancel") {kb60 : Int32 → ST → Option (Int32 × ST)} (hk60 : ∀ (x4 : Int32) (σ : ST), kb60 x4 σ = some res → J (wfm ad cs) X 5 0 0 σ 60 [(0, .ref (ad 18)), (4, .int x4)] []) (x4 : Int32) (σ : ST) (hf : MD_cancel_b60 kb60 x4 σ = some res) : J (wfm ad cs) X 5 0 0 σ 60 [(0, .ref (ad 18)), (4, .int x4)] [] := by
  unfold MD_cancel_b60 at hf
  refine j_iload C 1 rfl d_MD_cancel_60 ?_
  refine j_aload_n C 0 rfl rfl d_MD_cancel_62 ?_
  refine g_MD_offers C (List.mem_cons_of_mem _ wd_4_26) d_MD_cancel_63 ?_
  refine j_icmp_ge C d_MD_cancel_66 rfl (fun c66 => ?_) (fun c66 => ?_)
  · have hf := o_it c66 hf
    refine j_iconst C (v := 0) (by decide) d_MD_cancel_85 ?_
    have hf := Option.some.inj hf
    subst hf
    exact j_iret C Rt (Nat.zero_le _) (Nat.zero_le _) d_MD_cancel_86 ⟨rfl, rfl⟩
  · have hf := o_if c66 hf
    refine j_aload_n C 0 rfl rfl d_MD_cancel_69 ?_
    refine j_iload C 1 rfl d_MD_cancel_70 ?_
    refine j_iconst C (v := 1) (by decide) d_MD_cancel_72 ?_
    refine j_iadd C d_MD_cancel_73 ?_
    refine j_iload C 1 rfl d_MD_cancel_74 ?_
    obtain ⟨σ76, h76, hf⟩ := o_b1 hf
    refine j_callV (ci := 10) (Cn := "TollLedgerModel") (T := T_MD) (N := 39) C [.int (x4 + (1 : Int32)), .int x4] [] (m_MD_moveOffer _ _ _ _ _ (x4 + (1 : Int32)) x4 σ h76) (gdV wd_5_9 wd_5_11 wp_33 wd_1_11 wc_MD_moveOffer) hy_MD_moveOffer rfl ⟨18, rfl⟩ rfl rfl (by decide) (by decide) (by decide) (by decide) (Nat.le_of_ble_eq_true rfl) d_MD_cancel_76 (j_kV (σ1 := σ76) ?_)
    refine j_iinc C 1 rfl (v := (x4 + 1)) (inc_p1 _) (by decide) (loc' := [(4, .int (x4 + 1)), (0, .ref (ad 18))]) rfl d_MD_cancel_79 ?_
    refine j_goto C d_MD_cancel_82 rfl ?_
    refine j_sub [1, 0] rfl ?_
    exact hk60 (x4 + 1) σ76 hf
def MD_cancel_L60 : Nat → Int32 → ST → Option (Int32 × ST)
  | 0, _, _ => none
  | N + 1, x4, σ => MD_cancel_b60 (fun x4 σ => MD_cancel_L60 N x4 σ) x4 σ
theorem w_MD_cancel_L60 {X : JX} (C : JC X l D (ttf cs) eE b_MD_cancel "TollLedgerModel" 5 (Cond.code y_MD_cancel b_MD_cancel 5 r_MD_cancel :: BIG) 1 23 0 0) {res : Int32 × ST} (Rt : JR X (wfm ad cs) 0 0 (PI res.1 res.2) r_MD_cancel "cancel")  (N : Nat) (x4 : Int32) (σ : ST) (hf : MD_cancel_L60 N x4 σ = some res) : J (wfm ad cs) X 5 0 0 σ 60 [(0, .ref (ad 18)), (4, .int x4)] [] := by
  induction N generalizing x4 σ with
  | zero => exact nomatch hf
  | succ N ih => exact w_MD_cancel_b60 C Rt  (fun x4 σ h => ih x4 σ h) x4 σ hf
def MD_cancel_c11 (x1 : Int32) (s1 : Int32) (σ : ST) : Option (Int32 × ST) :=
  bd2 (MD_begin s1 σ) fun r11 σ11 =>
  if r11 = 0 then (bd1 (MD_findOffer x1 σ11) fun r23 =>
  if r23 < 0 then (some ((26 : Int32), σ11))
  else (if r23 < 0 ∨ 12 ≤ r23.toNatClampNeg then none else
  if (gA σ11 16 r23.toNatClampNeg) = (gI σ11 25) then (nmS (sI σ11 21 ((gI σ11 21) - (1 : Int32))) fun σ54 =>
  MD_cancel_L60 FU r23 σ54)
  else (some ((26 : Int32), σ11))))
  else (some (r11, σ11))
set_option maxRecDepth 100000 in
set_option maxHeartbeats 4000000 in
theorem w_MD_cancel_c11 {X : JX} (C : JC X l D (ttf cs) eE b_MD_cancel "TollLedgerModel" 5 (Cond.code y_MD_cancel b_MD_cancel 5 r_MD_cancel :: BIG) 1 23 0 0) {res : Int32 × ST} (Rt : JR X (wfm ad cs) 0 0 (PI res.1 res.2) r_MD_cancel "cancel")  (x1 : Int32) (s1 : Int32) (σ : ST) (hf : MD_cancel_c11 x1 s1 σ = some res) : J (wfm ad cs) X 5 0 0 σ 11 [(0, .ref (ad 18)), (1, .int x1)] [.int s1, .ref (ad 18)] := by
  unfold MD_cancel_c11 at hf
  obtain ⟨r11, σ11, h11, hf⟩ := o_b2 hf
  refine j_callV (ci := 10) (Cn := "TollLedgerModel") (T := T_MD) (N := 39) C [.int s1] [] (m_MD_begin _ _ _ _ _ s1 σ h11) (gdV wd_4_156 wd_4_158 wp_17 wd_1_11 wc_MD_begin) hy_MD_begin rfl ⟨18, rfl⟩ rfl rfl (by decide) (by decide) (by decide) (by decide) (Nat.le_of_ble_eq_true rfl) d_MD_cancel_11 (j_kI (r := r11) (σ1 := σ11) ?_)
  refine j_istore_n C rfl (by decide) (loc' := [(2, .int r11), (0, .ref (ad 18)), (1, .int x1)]) rfl d_MD_cancel_14 ?_
  refine j_iload_n C 0 rfl rfl d_MD_cancel_15 ?_
  refine j_if_eq C d_MD_cancel_16 rfl (fun c16 => ?_) (fun c16 => ?_)
  · have hf := o_it c16 hf
    refine j_aload_n C 1 rfl rfl d_MD_cancel_21 ?_
    refine j_iload_n C 2 rfl rfl d_MD_cancel_22 ?_
    obtain ⟨r23, h23, hf⟩ := o_b1 hf
    refine j_callV (ci := 10) (Cn := "TollLedgerModel") (T := T_MD) (N := 39) C [.int x1] [] (m_MD_findOffer _ _ _ _ _ x1 σ11 h23) (gdV wd_5_25 wd_5_27 wp_35 wd_1_11 wc_MD_findOffer) hy_MD_findOffer rfl ⟨18, rfl⟩ rfl rfl (by decide) (by decide) (by decide) (by decide) (Nat.le_of_ble_eq_true rfl) d_MD_cancel_23 (j_kI (r := r23) (σ1 := σ11) ?_)
    refine j_istore_n C rfl (by decide) (loc' := [(3, .int r23), (2, .int r11), (0, .ref (ad 18)), (1, .int x1)]) rfl d_MD_cancel_26 ?_
    refine j_iload_n C 0 rfl rfl d_MD_cancel_27 ?_
    refine j_if_lt C d_MD_cancel_28 rfl (fun c28 => ?_) (fun c28 => ?_)
    · have hf := o_it c28 hf
      refine j_bipush C (v := 26) (by decide) d_MD_cancel_44 ?_
      have hf := Option.some.inj hf
      subst hf
      exact j_iret C Rt (Nat.zero_le _) (Nat.zero_le _) d_MD_cancel_46 ⟨rfl, rfl⟩
    · have hf := o_if c28 hf
      refine j_aload_n C 2 rfl rfl d_MD_cancel_31 ?_
      refine g_MD_ownerOf C (List.mem_cons_of_mem _ wd_4_29) d_MD_cancel_32 ?_
      refine j_iload_n C 0 rfl rfl d_MD_cancel_35 ?_
      obtain ⟨g36, hf⟩ := o_gn hf
      refine la_m_ownerOf C g36 d_MD_cancel_36 ?_
      refine j_aload_n C 2 rfl rfl d_MD_cancel_37 ?_
      refine g_MD_me C (List.mem_cons_of_mem _ wd_4_42) d_MD_cancel_38 ?_
      refine j_icmp_eq C d_MD_cancel_41 rfl (fun c41 => ?_) (fun c41 => ?_)
      · have hf := o_it c41 hf
        refine j_aload_n C 2 rfl rfl d_MD_cancel_47 ?_
        refine j_dup C rfl d_MD_cancel_48 ?_
        refine g_MD_offers C (List.mem_cons_of_mem _ wd_4_26) d_MD_cancel_49 ?_
        refine j_iconst C (v := 1) (by decide) d_MD_cancel_52 ?_
        refine j_isub C d_MD_cancel_53 ?_
        obtain ⟨σ54, eσ54, hf⟩ := o_nmS hf
        refine p_MD_offers C eσ54 (List.mem_cons_of_mem _ wd_4_26) d_MD_cancel_54 ?_
        refine j_iload_n C 0 rfl rfl d_MD_cancel_57 ?_
        refine j_istore C (by decide) (loc' := [(4, .int r23), (3, .int r23), (2, .int r11), (0, .ref (ad 18)), (1, .int x1)]) rfl d_MD_cancel_58 ?_
        refine j_sub [3, 0] rfl ?_
        exact w_MD_cancel_L60 C Rt  FU r23 σ54 hf
      · have hf := o_if c41 hf
        refine j_bipush C (v := 26) (by decide) d_MD_cancel_44 ?_
        have hf := Option.some.inj hf
        subst hf
        exact j_iret C Rt (Nat.zero_le _) (Nat.zero_le _) d_MD_cancel_46 ⟨rfl, rfl⟩
  · have hf := o_if c16 hf
    refine j_iload_n C 0 rfl rfl d_MD_cancel_19 ?_
    have hf := Option.some.inj hf
    subst hf
    exact j_iret C Rt (Nat.zero_le _) (Nat.zero_le _) d_MD_cancel_20 ⟨rfl, rfl⟩
def MD_cancel (x1 : Int32) (σ : ST) : Option (Int32 × ST) :=
  if x1 < (1 : Int32) then (MD_cancel_c11 x1 (0 : Int32) σ)
  else (MD_cancel_c11 x1 (1 : Int32) σ)
set_option maxRecDepth 100000 in
set_option maxHeartbeats 4000000 in
theorem m_MD_cancel (l : Launch) (D : va_G) (ad : Nat → Nat) (cs : Nat → ClassId) (eE : Nat × Nat) (x1 : Int32) (σ : ST) {res : Int32 × ST} (hf : MD_cancel x1 σ = some res) : MS l y_MD_cancel (Cond.code y_MD_cancel b_MD_cancel 5 r_MD_cancel :: BIG) 1 23 0 0 (wfm ad cs) D (ttf cs) eE [.ref (ad 18), .int x1] σ (PI res.1 res.2) := by
  refine MS.of (cc := b_MD_cancel) (maxL := 5) (ret := r_MD_cancel) (by decide) rfl (Nat.le_of_ble_eq_true rfl) (loc := [(0, .ref (ad 18)), (1, .int x1)]) rfl (fun X C Rt => ?_)
  unfold MD_cancel at hf
  refine j_aload_n C 0 rfl rfl d_MD_cancel_0 ?_
  refine j_iload_n C 1 rfl rfl d_MD_cancel_1 ?_
  refine j_iconst C (v := 1) (by decide) d_MD_cancel_2 ?_
  refine j_icmp_lt C d_MD_cancel_3 rfl (fun c3 => ?_) (fun c3 => ?_)
  · have hf := o_it c3 hf
    refine j_iconst C (v := 0) (by decide) d_MD_cancel_10 ?_
    exact w_MD_cancel_c11 C Rt  x1 (0 : Int32) σ hf
  · have hf := o_if c3 hf
    refine j_iconst C (v := 1) (by decide) d_MD_cancel_6 ?_
    refine j_goto C d_MD_cancel_7 rfl ?_
    exact w_MD_cancel_c11 C Rt  x1 (1 : Int32) σ hf
theorem d_MD_change_0 : decode b_MD_change 0 = .ok (.iload_n 2, 1) := by decide +kernel
theorem d_MD_change_1 : decode b_MD_change 1 = .ok (.ifCond .ne 17, 3) := by decide +kernel
theorem d_MD_change_4 : decode b_MD_change 4 = .ok (.aload_n 0, 1) := by decide +kernel
theorem d_MD_change_5 : decode b_MD_change 5 = .ok (.getfield 13, 3) := by decide +kernel
theorem d_MD_change_8 : decode b_MD_change 8 = .ok (.iload_n 1, 1) := by decide +kernel
theorem d_MD_change_9 : decode b_MD_change 9 = .ok (.dup2, 1) := by decide +kernel
theorem d_MD_change_10 : decode b_MD_change 10 = .ok (.iaload, 1) := by decide +kernel
theorem d_MD_change_11 : decode b_MD_change 11 = .ok (.lload_n 3, 1) := by decide +kernel
theorem d_MD_change_12 : decode b_MD_change 12 = .ok (.l2i, 1) := by decide +kernel
theorem d_MD_change_13 : decode b_MD_change 13 = .ok (.iadd, 1) := by decide +kernel
theorem d_MD_change_14 : decode b_MD_change 14 = .ok (.iastore, 1) := by decide +kernel
theorem d_MD_change_15 : decode b_MD_change 15 = .ok (.goto 59, 3) := by decide +kernel
theorem d_MD_change_18 : decode b_MD_change 18 = .ok (.iload_n 2, 1) := by decide +kernel
theorem d_MD_change_19 : decode b_MD_change 19 = .ok (.invokestatic 95, 3) := by decide +kernel
theorem d_MD_change_22 : decode b_MD_change 22 = .ok (.iload_n 1, 1) := by decide +kernel
theorem d_MD_change_23 : decode b_MD_change 23 = .ok (.if_icmp .eq 51, 3) := by decide +kernel
theorem d_MD_change_26 : decode b_MD_change 26 = .ok (.iload_n 2, 1) := by decide +kernel
theorem d_MD_change_27 : decode b_MD_change 27 = .ok (.invokestatic 95, 3) := by decide +kernel
theorem d_MD_change_30 : decode b_MD_change 30 = .ok (.istore 5, 2) := by decide +kernel
theorem d_MD_change_32 : decode b_MD_change 32 = .ok (.iload_n 2, 1) := by decide +kernel
theorem d_MD_change_33 : decode b_MD_change 33 = .ok (.invokestatic 99, 3) := by decide +kernel
theorem d_MD_change_36 : decode b_MD_change 36 = .ok (.istore 6, 2) := by decide +kernel
theorem d_MD_change_38 : decode b_MD_change 38 = .ok (.aload_n 0, 1) := by decide +kernel
theorem d_MD_change_39 : decode b_MD_change 39 = .ok (.getfield 23, 3) := by decide +kernel
theorem d_MD_change_42 : decode b_MD_change 42 = .ok (.iload_n 1, 1) := by decide +kernel
theorem d_MD_change_43 : decode b_MD_change 43 = .ok (.iload 5, 2) := by decide +kernel
theorem d_MD_change_45 : decode b_MD_change 45 = .ok (.iload 6, 2) := by decide +kernel
theorem d_MD_change_47 : decode b_MD_change 47 = .ok (.invokestatic 102, 3) := by decide +kernel
theorem d_MD_change_50 : decode b_MD_change 50 = .ok (.dup2, 1) := by decide +kernel
theorem d_MD_change_51 : decode b_MD_change 51 = .ok (.iaload, 1) := by decide +kernel
theorem d_MD_change_52 : decode b_MD_change 52 = .ok (.lload_n 3, 1) := by decide +kernel
theorem d_MD_change_53 : decode b_MD_change 53 = .ok (.l2i, 1) := by decide +kernel
theorem d_MD_change_54 : decode b_MD_change 54 = .ok (.iadd, 1) := by decide +kernel
theorem d_MD_change_55 : decode b_MD_change 55 = .ok (.iastore, 1) := by decide +kernel
theorem d_MD_change_56 : decode b_MD_change 56 = .ok (.aload_n 0, 1) := by decide +kernel
theorem d_MD_change_57 : decode b_MD_change 57 = .ok (.getfield 23, 3) := by decide +kernel
theorem d_MD_change_60 : decode b_MD_change 60 = .ok (.iload 5, 2) := by decide +kernel
theorem d_MD_change_62 : decode b_MD_change 62 = .ok (.iload_n 1, 1) := by decide +kernel
theorem d_MD_change_63 : decode b_MD_change 63 = .ok (.iload 6, 2) := by decide +kernel
theorem d_MD_change_65 : decode b_MD_change 65 = .ok (.invokestatic 102, 3) := by decide +kernel
theorem d_MD_change_68 : decode b_MD_change 68 = .ok (.dup2, 1) := by decide +kernel
theorem d_MD_change_69 : decode b_MD_change 69 = .ok (.iaload, 1) := by decide +kernel
theorem d_MD_change_70 : decode b_MD_change 70 = .ok (.lload_n 3, 1) := by decide +kernel
theorem d_MD_change_71 : decode b_MD_change 71 = .ok (.l2i, 1) := by decide +kernel
theorem d_MD_change_72 : decode b_MD_change 72 = .ok (.isub, 1) := by decide +kernel
theorem d_MD_change_73 : decode b_MD_change 73 = .ok (.iastore, 1) := by decide +kernel
theorem d_MD_change_74 : decode b_MD_change 74 = .ok (.return_, 1) := by decide +kernel
def MD_change (x1 : Int32) (x2 : Int32) (x3 : Int64) (σ : ST) : Option (ST) :=
  if x2 = 0 then (if x1 < 0 ∨ 6 ≤ x1.toNatClampNeg then none else
  nmS (sA σ 9 x1.toNatClampNeg ((gA σ 9 x1.toNatClampNeg) + x3.toInt32)) fun σ14 =>
  some σ14)
  else (bd1 (MD_issuerOf x2) fun r19 =>
  if r19 = x1 then (some σ)
  else (bd1 (MD_issuerOf x2) fun r27 =>
  bd1 (MD_currencyOf x2) fun r33 =>
  bd1 (MD_line x1 r27 r33) fun r47 =>
  if r47 < 0 ∨ 72 ≤ r47.toNatClampNeg then none else
  nmS (sA σ 12 r47.toNatClampNeg ((gA σ 12 r47.toNatClampNeg) + x3.toInt32)) fun σ55 =>
  bd1 (MD_line r27 x1 r33) fun r65 =>
  if r65 < 0 ∨ 72 ≤ r65.toNatClampNeg then none else
  nmS (sA σ55 12 r65.toNatClampNeg ((gA σ55 12 r65.toNatClampNeg) - x3.toInt32)) fun σ73 =>
  some σ73))
set_option maxRecDepth 100000 in
set_option maxHeartbeats 4000000 in
theorem m_MD_change (l : Launch) (D : va_G) (ad : Nat → Nat) (cs : Nat → ClassId) (eE : Nat × Nat) (x1 : Int32) (x2 : Int32) (x3 : Int64) (σ : ST) {res : ST} (hf : MD_change x1 x2 x3 σ = some res) : MS l y_MD_change (Cond.code y_MD_change b_MD_change 7 r_MD_change :: BIG) 1 22 0 0 (wfm ad cs) D (ttf cs) eE [.ref (ad 18), .int x1, .int x2, .long x3] σ (PV res) := by
  refine MS.of (cc := b_MD_change) (maxL := 7) (ret := r_MD_change) (by decide) rfl (Nat.le_of_ble_eq_true rfl) (loc := [(0, .ref (ad 18)), (1, .int x1), (2, .int x2), (3, .long x3)]) rfl (fun X C Rt => ?_)
  unfold MD_change at hf
  refine j_iload_n C 2 rfl rfl d_MD_change_0 ?_
  refine j_if_ne C d_MD_change_1 rfl (fun c1 => ?_) (fun c1 => ?_)
  · have hf := o_if c1 hf
    refine j_iload_n C 2 rfl rfl d_MD_change_18 ?_
    obtain ⟨r19, h19, hf⟩ := o_b1 hf
    refine j_callS C [.int x2] [] (m_MD_issuerOf _ _ _ _ _ x2 σ h19) (gdS wd_4_164 wd_4_165 wd_1_11 wc_MD_issuerOf) hy_MD_issuerOf rfl rfl (by decide) (by decide) (by decide) (by decide) (Nat.le_of_ble_eq_true rfl) d_MD_change_19 (j_kI (r := r19) (σ1 := σ) ?_)
    refine j_iload_n C 1 rfl rfl d_MD_change_22 ?_
    refine j_icmp_eq C d_MD_change_23 rfl (fun c23 => ?_) (fun c23 => ?_)
    · have hf := o_it c23 hf
      have hf := Option.some.inj hf
      subst hf
      exact j_vret C Rt (Nat.zero_le _) (Nat.zero_le _) d_MD_change_74 ⟨rfl, rfl⟩
    · have hf := o_if c23 hf
      refine j_iload_n C 2 rfl rfl d_MD_change_26 ?_
      obtain ⟨r27, h27, hf⟩ := o_b1 hf
      refine j_callS C [.int x2] [] (m_MD_issuerOf _ _ _ _ _ x2 σ h27) (gdS wd_4_164 wd_4_165 wd_1_11 wc_MD_issuerOf) hy_MD_issuerOf rfl rfl (by decide) (by decide) (by decide) (by decide) (Nat.le_of_ble_eq_true rfl) d_MD_change_27 (j_kI (r := r27) (σ1 := σ) ?_)
      refine j_istore C (by decide) (loc' := [(5, .int r27), (0, .ref (ad 18)), (1, .int x1), (2, .int x2), (3, .long x3)]) rfl d_MD_change_30 ?_
      refine j_iload_n C 3 rfl rfl d_MD_change_32 ?_
      obtain ⟨r33, h33, hf⟩ := o_b1 hf
      refine j_callS C [.int x2] [] (m_MD_currencyOf _ _ _ _ _ x2 σ h33) (gdS wd_4_183 wd_4_184 wd_1_11 wc_MD_currencyOf) hy_MD_currencyOf rfl rfl (by decide) (by decide) (by decide) (by decide) (Nat.le_of_ble_eq_true rfl) d_MD_change_33 (j_kI (r := r33) (σ1 := σ) ?_)
      refine j_istore C (by decide) (loc' := [(6, .int r33), (5, .int r27), (0, .ref (ad 18)), (1, .int x1), (2, .int x2), (3, .long x3)]) rfl d_MD_change_36 ?_
      refine j_aload_n C 2 rfl rfl d_MD_change_38 ?_
      refine g_MD_balances C (List.mem_cons_of_mem _ wd_4_23) d_MD_change_39 ?_
      refine j_iload_n C 3 rfl rfl d_MD_change_42 ?_
      refine j_iload C 1 rfl d_MD_change_43 ?_
      refine j_iload C 0 rfl d_MD_change_45 ?_
      obtain ⟨r47, h47, hf⟩ := o_b1 hf
      refine j_callS C [.int x1, .int r27, .int r33] [.ref (ad 23)] (m_MD_line _ _ _ _ _ x1 r27 r33 σ h47) (gdS wd_4_186 wd_4_187 wd_1_11 wc_MD_line) hy_MD_line rfl rfl (by decide) (by decide) (by decide) (by decide) (Nat.le_of_ble_eq_true rfl) d_MD_change_47 (j_kI (r := r47) (σ1 := σ) ?_)
      refine j_dup2 C rfl rfl d_MD_change_50 ?_
      obtain ⟨g51, hf⟩ := o_gn hf
      refine la_m_balances C g51 d_MD_change_51 ?_
      refine j_lload_n C 5 rfl rfl d_MD_change_52 ?_
      refine j_l2i C d_MD_change_53 ?_
      refine j_iadd C d_MD_change_54 ?_
      obtain ⟨σ55, eσ55, hf⟩ := o_nmS hf
      refine sa_m_balances C g51 eσ55 d_MD_change_55 ?_
      refine j_aload_n C 2 rfl rfl d_MD_change_56 ?_
      refine g_MD_balances C (List.mem_cons_of_mem _ wd_4_23) d_MD_change_57 ?_
      refine j_iload C 1 rfl d_MD_change_60 ?_
      refine j_iload_n C 3 rfl rfl d_MD_change_62 ?_
      refine j_iload C 0 rfl d_MD_change_63 ?_
      obtain ⟨r65, h65, hf⟩ := o_b1 hf
      refine j_callS C [.int r27, .int x1, .int r33] [.ref (ad 23)] (m_MD_line _ _ _ _ _ r27 x1 r33 σ55 h65) (gdS wd_4_186 wd_4_187 wd_1_11 wc_MD_line) hy_MD_line rfl rfl (by decide) (by decide) (by decide) (by decide) (Nat.le_of_ble_eq_true rfl) d_MD_change_65 (j_kI (r := r65) (σ1 := σ55) ?_)
      refine j_dup2 C rfl rfl d_MD_change_68 ?_
      obtain ⟨g69, hf⟩ := o_gn hf
      refine la_m_balances C g69 d_MD_change_69 ?_
      refine j_lload_n C 5 rfl rfl d_MD_change_70 ?_
      refine j_l2i C d_MD_change_71 ?_
      refine j_isub C d_MD_change_72 ?_
      obtain ⟨σ73, eσ73, hf⟩ := o_nmS hf
      refine sa_m_balances C g69 eσ73 d_MD_change_73 ?_
      have hf := Option.some.inj hf
      subst hf
      exact j_vret C Rt (Nat.zero_le _) (Nat.zero_le _) d_MD_change_74 ⟨rfl, rfl⟩
  · have hf := o_it c1 hf
    refine j_aload_n C 0 rfl rfl d_MD_change_4 ?_
    refine g_MD_coins C (List.mem_cons_of_mem _ wd_4_20) d_MD_change_5 ?_
    refine j_iload_n C 1 rfl rfl d_MD_change_8 ?_
    refine j_dup2 C rfl rfl d_MD_change_9 ?_
    obtain ⟨g10, hf⟩ := o_gn hf
    refine la_m_coins C g10 d_MD_change_10 ?_
    refine j_lload_n C 3 rfl rfl d_MD_change_11 ?_
    refine j_l2i C d_MD_change_12 ?_
    refine j_iadd C d_MD_change_13 ?_
    obtain ⟨σ14, eσ14, hf⟩ := o_nmS hf
    refine sa_m_coins C g10 eσ14 d_MD_change_14 ?_
    refine j_goto C d_MD_change_15 rfl ?_
    have hf := Option.some.inj hf
    subst hf
    exact j_vret C Rt (Nat.zero_le _) (Nat.zero_le _) d_MD_change_74 ⟨rfl, rfl⟩
theorem d_MD_carryOut_0 : decode b_MD_carryOut 0 = .ok (.iconst 0, 1) := by decide +kernel
theorem d_MD_carryOut_1 : decode b_MD_carryOut 1 = .ok (.istore_n 3, 1) := by decide +kernel
theorem d_MD_carryOut_2 : decode b_MD_carryOut 2 = .ok (.iload_n 3, 1) := by decide +kernel
theorem d_MD_carryOut_3 : decode b_MD_carryOut 3 = .ok (.aload_n 0, 1) := by decide +kernel
theorem d_MD_carryOut_4 : decode b_MD_carryOut 4 = .ok (.getfield 110, 3) := by decide +kernel
theorem d_MD_carryOut_7 : decode b_MD_carryOut 7 = .ok (.if_icmp .ge 100, 3) := by decide +kernel
theorem d_MD_carryOut_10 : decode b_MD_carryOut 10 = .ok (.aload_n 0, 1) := by decide +kernel
theorem d_MD_carryOut_11 : decode b_MD_carryOut 11 = .ok (.getfield 76, 3) := by decide +kernel
theorem d_MD_carryOut_14 : decode b_MD_carryOut 14 = .ok (.iload_n 3, 1) := by decide +kernel
theorem d_MD_carryOut_15 : decode b_MD_carryOut 15 = .ok (.iaload, 1) := by decide +kernel
theorem d_MD_carryOut_16 : decode b_MD_carryOut 16 = .ok (.ifCond .le 85, 3) := by decide +kernel
theorem d_MD_carryOut_19 : decode b_MD_carryOut 19 = .ok (.aload_n 0, 1) := by decide +kernel
theorem d_MD_carryOut_20 : decode b_MD_carryOut 20 = .ok (.getfield 35, 3) := by decide +kernel
theorem d_MD_carryOut_23 : decode b_MD_carryOut 23 = .ok (.iload_n 3, 1) := by decide +kernel
theorem d_MD_carryOut_24 : decode b_MD_carryOut 24 = .ok (.iaload, 1) := by decide +kernel
theorem d_MD_carryOut_25 : decode b_MD_carryOut 25 = .ok (.istore 4, 2) := by decide +kernel
theorem d_MD_carryOut_27 : decode b_MD_carryOut 27 = .ok (.aload_n 0, 1) := by decide +kernel
theorem d_MD_carryOut_28 : decode b_MD_carryOut 28 = .ok (.aload_n 0, 1) := by decide +kernel
theorem d_MD_carryOut_29 : decode b_MD_carryOut 29 = .ok (.getfield 76, 3) := by decide +kernel
theorem d_MD_carryOut_32 : decode b_MD_carryOut 32 = .ok (.iload_n 3, 1) := by decide +kernel
theorem d_MD_carryOut_33 : decode b_MD_carryOut 33 = .ok (.iaload, 1) := by decide +kernel
theorem d_MD_carryOut_34 : decode b_MD_carryOut 34 = .ok (.i2l, 1) := by decide +kernel
theorem d_MD_carryOut_35 : decode b_MD_carryOut 35 = .ok (.iload 4, 2) := by decide +kernel
theorem d_MD_carryOut_37 : decode b_MD_carryOut 37 = .ok (.aload_n 0, 1) := by decide +kernel
theorem d_MD_carryOut_38 : decode b_MD_carryOut 38 = .ok (.getfield 68, 3) := by decide +kernel
theorem d_MD_carryOut_41 : decode b_MD_carryOut 41 = .ok (.iload_n 2, 1) := by decide +kernel
theorem d_MD_carryOut_42 : decode b_MD_carryOut 42 = .ok (.invokevirtual 166, 3) := by decide +kernel
theorem d_MD_carryOut_45 : decode b_MD_carryOut 45 = .ok (.lstore 5, 2) := by decide +kernel
theorem d_MD_carryOut_47 : decode b_MD_carryOut 47 = .ok (.aload_n 0, 1) := by decide +kernel
theorem d_MD_carryOut_48 : decode b_MD_carryOut 48 = .ok (.iload 4, 2) := by decide +kernel
theorem d_MD_carryOut_50 : decode b_MD_carryOut 50 = .ok (.iload_n 2, 1) := by decide +kernel
theorem d_MD_carryOut_51 : decode b_MD_carryOut 51 = .ok (.lload 5, 2) := by decide +kernel
theorem d_MD_carryOut_53 : decode b_MD_carryOut 53 = .ok (.lneg, 1) := by decide +kernel
theorem d_MD_carryOut_54 : decode b_MD_carryOut 54 = .ok (.invokevirtual 194, 3) := by decide +kernel
theorem d_MD_carryOut_57 : decode b_MD_carryOut 57 = .ok (.aload_n 0, 1) := by decide +kernel
theorem d_MD_carryOut_58 : decode b_MD_carryOut 58 = .ok (.iload 4, 2) := by decide +kernel
theorem d_MD_carryOut_60 : decode b_MD_carryOut 60 = .ok (.iload_n 1, 1) := by decide +kernel
theorem d_MD_carryOut_61 : decode b_MD_carryOut 61 = .ok (.aload_n 0, 1) := by decide +kernel
theorem d_MD_carryOut_62 : decode b_MD_carryOut 62 = .ok (.getfield 79, 3) := by decide +kernel
theorem d_MD_carryOut_65 : decode b_MD_carryOut 65 = .ok (.iload_n 3, 1) := by decide +kernel
theorem d_MD_carryOut_66 : decode b_MD_carryOut 66 = .ok (.iaload, 1) := by decide +kernel
theorem d_MD_carryOut_67 : decode b_MD_carryOut 67 = .ok (.i2l, 1) := by decide +kernel
theorem d_MD_carryOut_68 : decode b_MD_carryOut 68 = .ok (.invokevirtual 194, 3) := by decide +kernel
theorem d_MD_carryOut_71 : decode b_MD_carryOut 71 = .ok (.aload_n 0, 1) := by decide +kernel
theorem d_MD_carryOut_72 : decode b_MD_carryOut 72 = .ok (.getfield 47, 3) := by decide +kernel
theorem d_MD_carryOut_75 : decode b_MD_carryOut 75 = .ok (.iload_n 3, 1) := by decide +kernel
theorem d_MD_carryOut_76 : decode b_MD_carryOut 76 = .ok (.dup2, 1) := by decide +kernel
theorem d_MD_carryOut_77 : decode b_MD_carryOut 77 = .ok (.iaload, 1) := by decide +kernel
theorem d_MD_carryOut_78 : decode b_MD_carryOut 78 = .ok (.aload_n 0, 1) := by decide +kernel
theorem d_MD_carryOut_79 : decode b_MD_carryOut 79 = .ok (.getfield 76, 3) := by decide +kernel
theorem d_MD_carryOut_82 : decode b_MD_carryOut 82 = .ok (.iload_n 3, 1) := by decide +kernel
theorem d_MD_carryOut_83 : decode b_MD_carryOut 83 = .ok (.iaload, 1) := by decide +kernel
theorem d_MD_carryOut_84 : decode b_MD_carryOut 84 = .ok (.isub, 1) := by decide +kernel
theorem d_MD_carryOut_85 : decode b_MD_carryOut 85 = .ok (.iastore, 1) := by decide +kernel
theorem d_MD_carryOut_86 : decode b_MD_carryOut 86 = .ok (.aload_n 0, 1) := by decide +kernel
theorem d_MD_carryOut_87 : decode b_MD_carryOut 87 = .ok (.getfield 44, 3) := by decide +kernel
theorem d_MD_carryOut_90 : decode b_MD_carryOut 90 = .ok (.iload_n 3, 1) := by decide +kernel
theorem d_MD_carryOut_91 : decode b_MD_carryOut 91 = .ok (.dup2, 1) := by decide +kernel
theorem d_MD_carryOut_92 : decode b_MD_carryOut 92 = .ok (.iaload, 1) := by decide +kernel
theorem d_MD_carryOut_93 : decode b_MD_carryOut 93 = .ok (.aload_n 0, 1) := by decide +kernel
theorem d_MD_carryOut_94 : decode b_MD_carryOut 94 = .ok (.getfield 79, 3) := by decide +kernel
theorem d_MD_carryOut_97 : decode b_MD_carryOut 97 = .ok (.iload_n 3, 1) := by decide +kernel
theorem d_MD_carryOut_98 : decode b_MD_carryOut 98 = .ok (.iaload, 1) := by decide +kernel
theorem d_MD_carryOut_99 : decode b_MD_carryOut 99 = .ok (.isub, 1) := by decide +kernel
theorem d_MD_carryOut_100 : decode b_MD_carryOut 100 = .ok (.iastore, 1) := by decide +kernel
theorem d_MD_carryOut_101 : decode b_MD_carryOut 101 = .ok (.iinc 3 1, 3) := by decide +kernel
theorem d_MD_carryOut_104 : decode b_MD_carryOut 104 = .ok (.goto (-102), 3) := by decide +kernel
theorem d_MD_carryOut_107 : decode b_MD_carryOut 107 = .ok (.iconst 0, 1) := by decide +kernel
theorem d_MD_carryOut_108 : decode b_MD_carryOut 108 = .ok (.istore_n 3, 1) := by decide +kernel
theorem d_MD_carryOut_109 : decode b_MD_carryOut 109 = .ok (.iconst 0, 1) := by decide +kernel
theorem d_MD_carryOut_110 : decode b_MD_carryOut 110 = .ok (.istore 4, 2) := by decide +kernel
theorem d_MD_carryOut_112 : decode b_MD_carryOut 112 = .ok (.iload 4, 2) := by decide +kernel
theorem d_MD_carryOut_114 : decode b_MD_carryOut 114 = .ok (.aload_n 0, 1) := by decide +kernel
theorem d_MD_carryOut_115 : decode b_MD_carryOut 115 = .ok (.getfield 110, 3) := by decide +kernel
theorem d_MD_carryOut_118 : decode b_MD_carryOut 118 = .ok (.if_icmp .ge 29, 3) := by decide +kernel
theorem d_MD_carryOut_121 : decode b_MD_carryOut 121 = .ok (.aload_n 0, 1) := by decide +kernel
theorem d_MD_carryOut_122 : decode b_MD_carryOut 122 = .ok (.getfield 85, 3) := by decide +kernel
theorem d_MD_carryOut_125 : decode b_MD_carryOut 125 = .ok (.iload 4, 2) := by decide +kernel
theorem d_MD_carryOut_127 : decode b_MD_carryOut 127 = .ok (.baload, 1) := by decide +kernel
theorem d_MD_carryOut_128 : decode b_MD_carryOut 128 = .ok (.ifCond .ne 13, 3) := by decide +kernel
theorem d_MD_carryOut_131 : decode b_MD_carryOut 131 = .ok (.aload_n 0, 1) := by decide +kernel
theorem d_MD_carryOut_132 : decode b_MD_carryOut 132 = .ok (.iload 4, 2) := by decide +kernel
theorem d_MD_carryOut_134 : decode b_MD_carryOut 134 = .ok (.iload_n 3, 1) := by decide +kernel
theorem d_MD_carryOut_135 : decode b_MD_carryOut 135 = .ok (.invokevirtual 198, 3) := by decide +kernel
theorem d_MD_carryOut_138 : decode b_MD_carryOut 138 = .ok (.iinc 3 1, 3) := by decide +kernel
theorem d_MD_carryOut_141 : decode b_MD_carryOut 141 = .ok (.iinc 4 1, 3) := by decide +kernel
theorem d_MD_carryOut_144 : decode b_MD_carryOut 144 = .ok (.goto (-32), 3) := by decide +kernel
theorem d_MD_carryOut_147 : decode b_MD_carryOut 147 = .ok (.aload_n 0, 1) := by decide +kernel
theorem d_MD_carryOut_148 : decode b_MD_carryOut 148 = .ok (.iload_n 3, 1) := by decide +kernel
theorem d_MD_carryOut_149 : decode b_MD_carryOut 149 = .ok (.putfield 110, 3) := by decide +kernel
theorem d_MD_carryOut_152 : decode b_MD_carryOut 152 = .ok (.return_, 1) := by decide +kernel
def MD_carryOut_b112 (kb112 : Int32 → Int32 → ST → Option (ST)) (x3 : Int32) (x4 : Int32) (σ : ST) : Option (ST) :=
  if (gI σ 21) ≤ x4 then (nmS (sI σ 21 x3) fun σ149 =>
  some σ149)
  else (if x4 < 0 ∨ 12 ≤ x4.toNatClampNeg then none else
  if (gA σ 30 x4.toNatClampNeg) = 0 then (bd1 (MD_moveOffer x4 x3 σ) fun σ135 =>
  kb112 (x3 + 1) (x4 + 1) σ135)
  else (kb112 x3 (x4 + 1) σ))
set_option maxRecDepth 100000 in
set_option maxHeartbeats 4000000 in
theorem w_MD_carryOut_b112 {X : JX} (C : JC X l D (ttf cs) eE b_MD_carryOut "TollLedgerModel" 7 (Cond.code y_MD_carryOut b_MD_carryOut 7 r_MD_carryOut :: BIG) 2 48 0 0) {res : ST} (Rt : JR X (wfm ad cs) 0 0 (PV res) r_MD_carryOut "carryOut") {kb112 : Int32 → Int32 → ST → Option (ST)} (hk112 : ∀ (x3 : Int32) (x4 : Int32) (σ : ST), kb112 x3 x4 σ = some res → J (wfm ad cs) X 7 0 0 σ 112 [(0, .ref (ad 18)), (3, .int x3), (4, .int x4)] []) (x3 : Int32) (x4 : Int32) (σ : ST) (hf : MD_carryOut_b112 kb112 x3 x4 σ = some res) : J (wfm ad cs) X 7 0 0 σ 112 [(0, .ref (ad 18)), (3, .int x3), (4, .int x4)] [] := by
  unfold MD_carryOut_b112 at hf
  refine j_iload C 2 rfl d_MD_carryOut_112 ?_
  refine j_aload_n C 0 rfl rfl d_MD_carryOut_114 ?_
  refine g_MD_offers C (List.mem_cons_of_mem _ wd_4_26) d_MD_carryOut_115 ?_
  refine j_icmp_ge C d_MD_carryOut_118 rfl (fun c118 => ?_) (fun c118 => ?_)
  · have hf := o_it c118 hf
    refine j_aload_n C 0 rfl rfl d_MD_carryOut_147 ?_
    refine j_iload_n C 1 rfl rfl d_MD_carryOut_148 ?_
    obtain ⟨σ149, eσ149, hf⟩ := o_nmS hf
    refine p_MD_offers C eσ149 (List.mem_cons_of_mem _ wd_4_26) d_MD_carryOut_149 ?_
    have hf := Option.some.inj hf
    subst hf
    exact j_vret C Rt (Nat.zero_le _) (Nat.zero_le _) d_MD_carryOut_152 ⟨rfl, rfl⟩
  · have hf := o_if c118 hf
    refine j_aload_n C 0 rfl rfl d_MD_carryOut_121 ?_
    refine g_MD_gone C (List.mem_cons_of_mem _ wd_4_52) d_MD_carryOut_122 ?_
    refine j_iload C 2 rfl d_MD_carryOut_125 ?_
    obtain ⟨g127, hf⟩ := o_gn hf
    refine la_m_gone C g127 d_MD_carryOut_127 ?_
    refine j_if_ne C d_MD_carryOut_128 rfl (fun c128 => ?_) (fun c128 => ?_)
    · have hf := o_if c128 hf
      refine j_iinc C 2 rfl (v := (x4 + 1)) (inc_p1 _) (by decide) (loc' := [(4, .int (x4 + 1)), (0, .ref (ad 18)), (3, .int x3)]) rfl d_MD_carryOut_141 ?_
      refine j_goto C d_MD_carryOut_144 rfl ?_
      refine j_sub [1, 2, 0] rfl ?_
      exact hk112 x3 (x4 + 1) σ hf
    · have hf := o_it c128 hf
      refine j_aload_n C 0 rfl rfl d_MD_carryOut_131 ?_
      refine j_iload C 2 rfl d_MD_carryOut_132 ?_
      refine j_iload_n C 1 rfl rfl d_MD_carryOut_134 ?_
      obtain ⟨σ135, h135, hf⟩ := o_b1 hf
      refine j_callV (ci := 10) (Cn := "TollLedgerModel") (T := T_MD) (N := 39) C [.int x4, .int x3] [] (m_MD_moveOffer _ _ _ _ _ x4 x3 σ h135) (gdV wd_5_9 wd_5_11 wp_33 wd_1_11 wc_MD_moveOffer) hy_MD_moveOffer rfl ⟨18, rfl⟩ rfl rfl (by decide) (by decide) (by decide) (by decide) (Nat.le_of_ble_eq_true rfl) d_MD_carryOut_135 (j_kV (σ1 := σ135) ?_)
      refine j_iinc C 1 rfl (v := (x3 + 1)) (inc_p1 _) (by decide) (loc' := [(3, .int (x3 + 1)), (0, .ref (ad 18)), (4, .int x4)]) rfl d_MD_carryOut_138 ?_
      refine j_iinc C 2 rfl (v := (x4 + 1)) (inc_p1 _) (by decide) (loc' := [(4, .int (x4 + 1)), (3, .int (x3 + 1)), (0, .ref (ad 18))]) rfl d_MD_carryOut_141 ?_
      refine j_goto C d_MD_carryOut_144 rfl ?_
      refine j_sub [2, 1, 0] rfl ?_
      exact hk112 (x3 + 1) (x4 + 1) σ135 hf
def MD_carryOut_L112 : Nat → Int32 → Int32 → ST → Option (ST)
  | 0, _, _, _ => none
  | N + 1, x3, x4, σ => MD_carryOut_b112 (fun x3 x4 σ => MD_carryOut_L112 N x3 x4 σ) x3 x4 σ
theorem w_MD_carryOut_L112 {X : JX} (C : JC X l D (ttf cs) eE b_MD_carryOut "TollLedgerModel" 7 (Cond.code y_MD_carryOut b_MD_carryOut 7 r_MD_carryOut :: BIG) 2 48 0 0) {res : ST} (Rt : JR X (wfm ad cs) 0 0 (PV res) r_MD_carryOut "carryOut")  (N : Nat) (x3 : Int32) (x4 : Int32) (σ : ST) (hf : MD_carryOut_L112 N x3 x4 σ = some res) : J (wfm ad cs) X 7 0 0 σ 112 [(0, .ref (ad 18)), (3, .int x3), (4, .int x4)] [] := by
  induction N generalizing x3 x4 σ with
  | zero => exact nomatch hf
  | succ N ih => exact w_MD_carryOut_b112 C Rt  (fun x3 x4 σ h => ih x3 x4 σ h) x3 x4 σ hf
def MD_carryOut_b2 (kb2 : Int32 → Int32 → Int32 → ST → Option (ST)) (x1 : Int32) (x2 : Int32) (x3 : Int32) (σ : ST) : Option (ST) :=
  if (gI σ 21) ≤ x3 then (MD_carryOut_L112 FU (0 : Int32) (0 : Int32) σ)
  else (if x3 < 0 ∨ 12 ≤ x3.toNatClampNeg then none else
  if (gA σ 27 x3.toNatClampNeg) ≤ 0 then (kb2 x1 x2 (x3 + 1) σ)
  else (nmI (gA σ 16 x3.toNatClampNeg) fun x4_25 =>
  bd1 (MD_costOf ((gA σ 27 x3.toNatClampNeg).toInt64) x4_25 (gI σ 25) x2 σ) fun r42 =>
  bd1 (MD_change x4_25 x2 (-r42) σ) fun σ54 =>
  bd1 (MD_change x4_25 x1 ((gA σ54 28 x3.toNatClampNeg).toInt64) σ54) fun σ68 =>
  nmS (sA σ68 20 x3.toNatClampNeg ((gA σ68 20 x3.toNatClampNeg) - (gA σ68 27 x3.toNatClampNeg))) fun σ85 =>
  nmS (sA σ85 19 x3.toNatClampNeg ((gA σ85 19 x3.toNatClampNeg) - (gA σ85 28 x3.toNatClampNeg))) fun σ100 =>
  kb2 x1 x2 (x3 + 1) σ100))
set_option maxRecDepth 100000 in
set_option maxHeartbeats 4000000 in
theorem w_MD_carryOut_b2 {X : JX} (C : JC X l D (ttf cs) eE b_MD_carryOut "TollLedgerModel" 7 (Cond.code y_MD_carryOut b_MD_carryOut 7 r_MD_carryOut :: BIG) 2 48 0 0) {res : ST} (Rt : JR X (wfm ad cs) 0 0 (PV res) r_MD_carryOut "carryOut") {kb2 : Int32 → Int32 → Int32 → ST → Option (ST)} (hk2 : ∀ (x1 : Int32) (x2 : Int32) (x3 : Int32) (σ : ST), kb2 x1 x2 x3 σ = some res → J (wfm ad cs) X 7 0 0 σ 2 [(0, .ref (ad 18)), (1, .int x1), (2, .int x2), (3, .int x3)] []) (x1 : Int32) (x2 : Int32) (x3 : Int32) (σ : ST) (hf : MD_carryOut_b2 kb2 x1 x2 x3 σ = some res) : J (wfm ad cs) X 7 0 0 σ 2 [(0, .ref (ad 18)), (1, .int x1), (2, .int x2), (3, .int x3)] [] := by
  unfold MD_carryOut_b2 at hf
  refine j_iload_n C 3 rfl rfl d_MD_carryOut_2 ?_
  refine j_aload_n C 0 rfl rfl d_MD_carryOut_3 ?_
  refine g_MD_offers C (List.mem_cons_of_mem _ wd_4_26) d_MD_carryOut_4 ?_
  refine j_icmp_ge C d_MD_carryOut_7 rfl (fun c7 => ?_) (fun c7 => ?_)
  · have hf := o_it c7 hf
    refine j_iconst C (v := 0) (by decide) d_MD_carryOut_107 ?_
    refine j_istore_n C rfl (by decide) (loc' := [(3, .int (0 : Int32)), (0, .ref (ad 18)), (1, .int x1), (2, .int x2)]) rfl d_MD_carryOut_108 ?_
    refine j_iconst C (v := 0) (by decide) d_MD_carryOut_109 ?_
    refine j_istore C (by decide) (loc' := [(4, .int (0 : Int32)), (3, .int (0 : Int32)), (0, .ref (ad 18)), (1, .int x1), (2, .int x2)]) rfl d_MD_carryOut_110 ?_
    refine j_sub [2, 1, 0] rfl ?_
    exact w_MD_carryOut_L112 C Rt  FU (0 : Int32) (0 : Int32) σ hf
  · have hf := o_if c7 hf
    refine j_aload_n C 0 rfl rfl d_MD_carryOut_10 ?_
    refine g_MD_taken C (List.mem_cons_of_mem _ wd_4_49) d_MD_carryOut_11 ?_
    refine j_iload_n C 3 rfl rfl d_MD_carryOut_14 ?_
    obtain ⟨g15, hf⟩ := o_gn hf
    refine la_m_taken C g15 d_MD_carryOut_15 ?_
    refine j_if_le C d_MD_carryOut_16 rfl (fun c16 => ?_) (fun c16 => ?_)
    · have hf := o_it c16 hf
      refine j_iinc C 3 rfl (v := (x3 + 1)) (inc_p1 _) (by decide) (loc' := [(3, .int (x3 + 1)), (0, .ref (ad 18)), (1, .int x1), (2, .int x2)]) rfl d_MD_carryOut_101 ?_
      refine j_goto C d_MD_carryOut_104 rfl ?_
      refine j_sub [1, 2, 3, 0] rfl ?_
      exact hk2 x1 x2 (x3 + 1) σ hf
    · have hf := o_if c16 hf
      refine j_aload_n C 0 rfl rfl d_MD_carryOut_19 ?_
      refine g_MD_ownerOf C (List.mem_cons_of_mem _ wd_4_29) d_MD_carryOut_20 ?_
      refine j_iload_n C 3 rfl rfl d_MD_carryOut_23 ?_
      refine la_m_ownerOf C g15 d_MD_carryOut_24 ?_
      obtain ⟨x4_25, ex4_25, hf⟩ := o_nmI hf
      refine j_topI ex4_25 ?_
      refine j_istore C (by decide) (loc' := [(4, .int x4_25), (0, .ref (ad 18)), (1, .int x1), (2, .int x2), (3, .int x3)]) rfl d_MD_carryOut_25 ?_
      refine j_aload_n C 1 rfl rfl d_MD_carryOut_27 ?_
      refine j_aload_n C 1 rfl rfl d_MD_carryOut_28 ?_
      refine g_MD_taken C (List.mem_cons_of_mem _ wd_4_49) d_MD_carryOut_29 ?_
      refine j_iload_n C 4 rfl rfl d_MD_carryOut_32 ?_
      refine la_m_taken C g15 d_MD_carryOut_33 ?_
      refine j_i2l C d_MD_carryOut_34 ?_
      refine j_iload C 0 rfl d_MD_carryOut_35 ?_
      refine j_aload_n C 1 rfl rfl d_MD_carryOut_37 ?_
      refine g_MD_me C (List.mem_cons_of_mem _ wd_4_42) d_MD_carryOut_38 ?_
      refine j_iload_n C 3 rfl rfl d_MD_carryOut_41 ?_
      obtain ⟨r42, h42, hf⟩ := o_b1 hf
      refine j_callV (ci := 10) (Cn := "TollLedgerModel") (T := T_MD) (N := 39) C [.long (gA σ 27 x3.toNatClampNeg).toInt64, .int x4_25, .int (gI σ 25), .int x2] [] (m_MD_costOf _ _ _ _ _ ((gA σ 27 x3.toNatClampNeg).toInt64) x4_25 (gI σ 25) x2 σ h42) (gdV wd_4_207 wd_4_209 wp_23 wd_1_11 wc_MD_costOf) hy_MD_costOf rfl ⟨18, rfl⟩ rfl rfl (by decide) (by decide) (by decide) (by decide) (Nat.le_of_ble_eq_true rfl) d_MD_carryOut_42 (j_kL (r := r42) (σ1 := σ) ?_)
      refine j_lstore C (by decide) (loc' := [(5, .long r42), (4, .int x4_25), (0, .ref (ad 18)), (1, .int x1), (2, .int x2), (3, .int x3)]) rfl d_MD_carryOut_45 ?_
      refine j_aload_n C 2 rfl rfl d_MD_carryOut_47 ?_
      refine j_iload C 1 rfl d_MD_carryOut_48 ?_
      refine j_iload_n C 4 rfl rfl d_MD_carryOut_50 ?_
      refine j_lload C 0 rfl d_MD_carryOut_51 ?_
      refine j_lneg C d_MD_carryOut_53 ?_
      obtain ⟨σ54, h54, hf⟩ := o_b1 hf
      refine j_callV (ci := 10) (Cn := "TollLedgerModel") (T := T_MD) (N := 39) C [.int x4_25, .int x2, .long (-r42)] [] (m_MD_change _ _ _ _ _ x4_25 x2 (-r42) σ h54) (gdV wd_5_5 wd_5_7 wp_32 wd_1_11 wc_MD_change) hy_MD_change rfl ⟨18, rfl⟩ rfl rfl (by decide) (by decide) (by decide) (by decide) (Nat.le_of_ble_eq_true rfl) d_MD_carryOut_54 (j_kV (σ1 := σ54) ?_)
      refine j_aload_n C 2 rfl rfl d_MD_carryOut_57 ?_
      refine j_iload C 1 rfl d_MD_carryOut_58 ?_
      refine j_iload_n C 3 rfl rfl d_MD_carryOut_60 ?_
      refine j_aload_n C 2 rfl rfl d_MD_carryOut_61 ?_
      refine g_MD_prices C (List.mem_cons_of_mem _ wd_4_50) d_MD_carryOut_62 ?_
      refine j_iload_n C 5 rfl rfl d_MD_carryOut_65 ?_
      refine la_m_prices C g15 d_MD_carryOut_66 ?_
      refine j_i2l C d_MD_carryOut_67 ?_
      obtain ⟨σ68, h68, hf⟩ := o_b1 hf
      refine j_callV (ci := 10) (Cn := "TollLedgerModel") (T := T_MD) (N := 39) C [.int x4_25, .int x1, .long (gA σ54 28 x3.toNatClampNeg).toInt64] [] (m_MD_change _ _ _ _ _ x4_25 x1 ((gA σ54 28 x3.toNatClampNeg).toInt64) σ54 h68) (gdV wd_5_5 wd_5_7 wp_32 wd_1_11 wc_MD_change) hy_MD_change rfl ⟨18, rfl⟩ rfl rfl (by decide) (by decide) (by decide) (by decide) (Nat.le_of_ble_eq_true rfl) d_MD_carryOut_68 (j_kV (σ1 := σ68) ?_)
      refine j_aload_n C 2 rfl rfl d_MD_carryOut_71 ?_
      refine g_MD_gOf C (List.mem_cons_of_mem _ wd_4_33) d_MD_carryOut_72 ?_
      refine j_iload_n C 5 rfl rfl d_MD_carryOut_75 ?_
      refine j_dup2 C rfl rfl d_MD_carryOut_76 ?_
      refine la_m_gOf C g15 d_MD_carryOut_77 ?_
      refine j_aload_n C 2 rfl rfl d_MD_carryOut_78 ?_
      refine g_MD_taken C (List.mem_cons_of_mem _ wd_4_49) d_MD_carryOut_79 ?_
      refine j_iload_n C 5 rfl rfl d_MD_carryOut_82 ?_
      refine la_m_taken C g15 d_MD_carryOut_83 ?_
      refine j_isub C d_MD_carryOut_84 ?_
      obtain ⟨σ85, eσ85, hf⟩ := o_nmS hf
      refine sa_m_gOf C g15 eσ85 d_MD_carryOut_85 ?_
      refine j_aload_n C 2 rfl rfl d_MD_carryOut_86 ?_
      refine g_MD_wOf C (List.mem_cons_of_mem _ wd_4_32) d_MD_carryOut_87 ?_
      refine j_iload_n C 5 rfl rfl d_MD_carryOut_90 ?_
      refine j_dup2 C rfl rfl d_MD_carryOut_91 ?_
      refine la_m_wOf C g15 d_MD_carryOut_92 ?_
      refine j_aload_n C 2 rfl rfl d_MD_carryOut_93 ?_
      refine g_MD_prices C (List.mem_cons_of_mem _ wd_4_50) d_MD_carryOut_94 ?_
      refine j_iload_n C 5 rfl rfl d_MD_carryOut_97 ?_
      refine la_m_prices C g15 d_MD_carryOut_98 ?_
      refine j_isub C d_MD_carryOut_99 ?_
      obtain ⟨σ100, eσ100, hf⟩ := o_nmS hf
      refine sa_m_wOf C g15 eσ100 d_MD_carryOut_100 ?_
      refine j_iinc C 5 rfl (v := (x3 + 1)) (inc_p1 _) (by decide) (loc' := [(3, .int (x3 + 1)), (5, .long r42), (4, .int x4_25), (0, .ref (ad 18)), (1, .int x1), (2, .int x2)]) rfl d_MD_carryOut_101 ?_
      refine j_goto C d_MD_carryOut_104 rfl ?_
      refine j_sub [3, 4, 5, 0] rfl ?_
      exact hk2 x1 x2 (x3 + 1) σ100 hf
def MD_carryOut_L2 : Nat → Int32 → Int32 → Int32 → ST → Option (ST)
  | 0, _, _, _, _ => none
  | N + 1, x1, x2, x3, σ => MD_carryOut_b2 (fun x1 x2 x3 σ => MD_carryOut_L2 N x1 x2 x3 σ) x1 x2 x3 σ
theorem w_MD_carryOut_L2 {X : JX} (C : JC X l D (ttf cs) eE b_MD_carryOut "TollLedgerModel" 7 (Cond.code y_MD_carryOut b_MD_carryOut 7 r_MD_carryOut :: BIG) 2 48 0 0) {res : ST} (Rt : JR X (wfm ad cs) 0 0 (PV res) r_MD_carryOut "carryOut")  (N : Nat) (x1 : Int32) (x2 : Int32) (x3 : Int32) (σ : ST) (hf : MD_carryOut_L2 N x1 x2 x3 σ = some res) : J (wfm ad cs) X 7 0 0 σ 2 [(0, .ref (ad 18)), (1, .int x1), (2, .int x2), (3, .int x3)] [] := by
  induction N generalizing x1 x2 x3 σ with
  | zero => exact nomatch hf
  | succ N ih => exact w_MD_carryOut_b2 C Rt  (fun x1 x2 x3 σ h => ih x1 x2 x3 σ h) x1 x2 x3 σ hf
def MD_carryOut (x1 : Int32) (x2 : Int32) (σ : ST) : Option (ST) :=
  MD_carryOut_L2 FU x1 x2 (0 : Int32) σ
set_option maxRecDepth 100000 in
set_option maxHeartbeats 4000000 in
theorem m_MD_carryOut (l : Launch) (D : va_G) (ad : Nat → Nat) (cs : Nat → ClassId) (eE : Nat × Nat) (x1 : Int32) (x2 : Int32) (σ : ST) {res : ST} (hf : MD_carryOut x1 x2 σ = some res) : MS l y_MD_carryOut (Cond.code y_MD_carryOut b_MD_carryOut 7 r_MD_carryOut :: BIG) 2 48 0 0 (wfm ad cs) D (ttf cs) eE [.ref (ad 18), .int x1, .int x2] σ (PV res) := by
  refine MS.of (cc := b_MD_carryOut) (maxL := 7) (ret := r_MD_carryOut) (by decide) rfl (Nat.le_of_ble_eq_true rfl) (loc := [(0, .ref (ad 18)), (1, .int x1), (2, .int x2)]) rfl (fun X C Rt => ?_)
  unfold MD_carryOut at hf
  refine j_iconst C (v := 0) (by decide) d_MD_carryOut_0 ?_
  refine j_istore_n C rfl (by decide) (loc' := [(3, .int (0 : Int32)), (0, .ref (ad 18)), (1, .int x1), (2, .int x2)]) rfl d_MD_carryOut_1 ?_
  refine j_sub [1, 2, 3, 0] rfl ?_
  exact w_MD_carryOut_L2 C Rt  FU x1 x2 (0 : Int32) σ hf
end
