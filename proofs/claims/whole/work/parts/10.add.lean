theorem d_AL_add_0 : decode b_AL_add 0 = .ok (.aload_n 0, 1) := by decide +kernel
theorem d_AL_add_1 : decode b_AL_add 1 = .ok (.dup, 1) := by decide +kernel
theorem d_AL_add_2 : decode b_AL_add 2 = .ok (.getfield 63, 3) := by decide +kernel
theorem d_AL_add_5 : decode b_AL_add 5 = .ok (.iconst 1, 1) := by decide +kernel
theorem d_AL_add_6 : decode b_AL_add 6 = .ok (.iadd, 1) := by decide +kernel
theorem d_AL_add_7 : decode b_AL_add 7 = .ok (.putfield 63, 3) := by decide +kernel
theorem d_AL_add_10 : decode b_AL_add 10 = .ok (.aload_n 0, 1) := by decide +kernel
theorem d_AL_add_11 : decode b_AL_add 11 = .ok (.aload_n 1, 1) := by decide +kernel
theorem d_AL_add_12 : decode b_AL_add 12 = .ok (.aload_n 0, 1) := by decide +kernel
theorem d_AL_add_13 : decode b_AL_add 13 = .ok (.getfield 9, 3) := by decide +kernel
theorem d_AL_add_16 : decode b_AL_add 16 = .ok (.aload_n 0, 1) := by decide +kernel
theorem d_AL_add_17 : decode b_AL_add 17 = .ok (.getfield 48, 3) := by decide +kernel
theorem d_AL_add_20 : decode b_AL_add 20 = .ok (.invokevirtual 131, 3) := by decide +kernel
theorem d_AL_add_23 : decode b_AL_add 23 = .ok (.iconst 1, 1) := by decide +kernel
theorem d_AL_add_24 : decode b_AL_add 24 = .ok (.ireturn, 1) := by decide +kernel
theorem d_AL_add3_0 : decode b_AL_add3 0 = .ok (.iload_n 3, 1) := by decide +kernel
theorem d_AL_add3_1 : decode b_AL_add3 1 = .ok (.aload_n 2, 1) := by decide +kernel
theorem d_AL_add3_2 : decode b_AL_add3 2 = .ok (.arraylength, 1) := by decide +kernel
theorem d_AL_add3_3 : decode b_AL_add3 3 = .ok (.if_icmp .ne 8, 3) := by decide +kernel
theorem d_AL_add3_6 : decode b_AL_add3 6 = .ok (.aload_n 0, 1) := by decide +kernel
theorem d_AL_add3_7 : decode b_AL_add3 7 = .ok (.invokevirtual 129, 3) := by decide +kernel
theorem d_AL_add3_10 : decode b_AL_add3 10 = .ok (.astore_n 2, 1) := by decide +kernel
theorem d_AL_add3_11 : decode b_AL_add3 11 = .ok (.aload_n 2, 1) := by decide +kernel
theorem d_AL_add3_12 : decode b_AL_add3 12 = .ok (.iload_n 3, 1) := by decide +kernel
theorem d_AL_add3_13 : decode b_AL_add3 13 = .ok (.aload_n 1, 1) := by decide +kernel
theorem d_AL_add3_14 : decode b_AL_add3 14 = .ok (.aastore, 1) := by decide +kernel
theorem d_AL_add3_15 : decode b_AL_add3 15 = .ok (.aload_n 0, 1) := by decide +kernel
theorem d_AL_add3_16 : decode b_AL_add3 16 = .ok (.iload_n 3, 1) := by decide +kernel
theorem d_AL_add3_17 : decode b_AL_add3 17 = .ok (.iconst 1, 1) := by decide +kernel
theorem d_AL_add3_18 : decode b_AL_add3 18 = .ok (.iadd, 1) := by decide +kernel
theorem d_AL_add3_19 : decode b_AL_add3 19 = .ok (.putfield 48, 3) := by decide +kernel
theorem d_AL_add3_22 : decode b_AL_add3 22 = .ok (.return_, 1) := by decide +kernel
theorem d_AL_grow_0 : decode b_AL_grow 0 = .ok (.aload_n 0, 1) := by decide +kernel
theorem d_AL_grow_1 : decode b_AL_grow 1 = .ok (.aload_n 0, 1) := by decide +kernel
theorem d_AL_grow_2 : decode b_AL_grow 2 = .ok (.getfield 48, 3) := by decide +kernel
theorem d_AL_grow_5 : decode b_AL_grow 5 = .ok (.iconst 1, 1) := by decide +kernel
theorem d_AL_grow_6 : decode b_AL_grow 6 = .ok (.iadd, 1) := by decide +kernel
theorem d_AL_grow_7 : decode b_AL_grow 7 = .ok (.invokevirtual 69, 3) := by decide +kernel
theorem d_AL_grow_10 : decode b_AL_grow 10 = .ok (.areturn, 1) := by decide +kernel
theorem d_AL_grow1_0 : decode b_AL_grow1 0 = .ok (.aload_n 0, 1) := by decide +kernel
theorem d_AL_grow1_1 : decode b_AL_grow1 1 = .ok (.getfield 9, 3) := by decide +kernel
theorem d_AL_grow1_4 : decode b_AL_grow1 4 = .ok (.arraylength, 1) := by decide +kernel
theorem d_AL_grow1_5 : decode b_AL_grow1 5 = .ok (.istore_n 2, 1) := by decide +kernel
theorem d_AL_grow1_6 : decode b_AL_grow1 6 = .ok (.iload_n 2, 1) := by decide +kernel
theorem d_AL_grow1_7 : decode b_AL_grow1 7 = .ok (.ifCond .gt 13, 3) := by decide +kernel
theorem d_AL_grow1_10 : decode b_AL_grow1 10 = .ok (.aload_n 0, 1) := by decide +kernel
theorem d_AL_grow1_11 : decode b_AL_grow1 11 = .ok (.getfield 9, 3) := by decide +kernel
theorem d_AL_grow1_14 : decode b_AL_grow1 14 = .ok (.getstatic 39, 3) := by decide +kernel
theorem d_AL_grow1_17 : decode b_AL_grow1 17 = .ok (.if_acmp .eq 28, 3) := by decide +kernel
theorem d_AL_grow1_20 : decode b_AL_grow1 20 = .ok (.iload_n 2, 1) := by decide +kernel
theorem d_AL_grow1_21 : decode b_AL_grow1 21 = .ok (.iload_n 1, 1) := by decide +kernel
theorem d_AL_grow1_22 : decode b_AL_grow1 22 = .ok (.iload_n 2, 1) := by decide +kernel
theorem d_AL_grow1_23 : decode b_AL_grow1 23 = .ok (.isub, 1) := by decide +kernel
theorem d_AL_grow1_24 : decode b_AL_grow1 24 = .ok (.iload_n 2, 1) := by decide +kernel
theorem d_AL_grow1_25 : decode b_AL_grow1 25 = .ok (.iconst 1, 1) := by decide +kernel
theorem d_AL_grow1_26 : decode b_AL_grow1 26 = .ok (.ishr, 1) := by decide +kernel
theorem d_AL_grow1_27 : decode b_AL_grow1 27 = .ok (.invokestatic 73, 3) := by decide +kernel
theorem d_AL_grow1_30 : decode b_AL_grow1 30 = .ok (.istore_n 3, 1) := by decide +kernel
theorem d_AL_grow1_31 : decode b_AL_grow1 31 = .ok (.aload_n 0, 1) := by decide +kernel
theorem d_AL_grow1_32 : decode b_AL_grow1 32 = .ok (.aload_n 0, 1) := by decide +kernel
theorem d_AL_grow1_33 : decode b_AL_grow1 33 = .ok (.getfield 9, 3) := by decide +kernel
theorem d_AL_grow1_36 : decode b_AL_grow1 36 = .ok (.iload_n 3, 1) := by decide +kernel
theorem d_AL_grow1_37 : decode b_AL_grow1 37 = .ok (.invokestatic 66, 3) := by decide +kernel
theorem d_AL_grow1_40 : decode b_AL_grow1 40 = .ok (.dup_x1, 1) := by decide +kernel
theorem d_AL_grow1_41 : decode b_AL_grow1 41 = .ok (.putfield 9, 3) := by decide +kernel
theorem d_AL_grow1_44 : decode b_AL_grow1 44 = .ok (.areturn, 1) := by decide +kernel
theorem d_AL_grow1_45 : decode b_AL_grow1 45 = .ok (.aload_n 0, 1) := by decide +kernel
theorem d_AL_grow1_46 : decode b_AL_grow1 46 = .ok (.bipush 10, 2) := by decide +kernel
theorem d_AL_grow1_48 : decode b_AL_grow1 48 = .ok (.iload_n 1, 1) := by decide +kernel
theorem d_AL_grow1_49 : decode b_AL_grow1 49 = .ok (.invokestatic 79, 3) := by decide +kernel
theorem d_AL_grow1_52 : decode b_AL_grow1 52 = .ok (.anewarray 7, 3) := by decide +kernel
theorem d_AL_grow1_55 : decode b_AL_grow1 55 = .ok (.dup_x1, 1) := by decide +kernel
theorem d_AL_grow1_56 : decode b_AL_grow1 56 = .ok (.putfield 9, 3) := by decide +kernel
theorem d_AL_grow1_59 : decode b_AL_grow1 59 = .ok (.areturn, 1) := by decide +kernel
theorem d_AR_copyOf_0 : decode b_AR_copyOf 0 = .ok (.aload_n 0, 1) := by decide +kernel
theorem d_AR_copyOf_1 : decode b_AR_copyOf 1 = .ok (.iload_n 1, 1) := by decide +kernel
theorem d_AR_copyOf_2 : decode b_AR_copyOf 2 = .ok (.aload_n 0, 1) := by decide +kernel
theorem d_AR_copyOf_3 : decode b_AR_copyOf 3 = .ok (.invokevirtual 86, 3) := by decide +kernel
theorem d_AR_copyOf_6 : decode b_AR_copyOf 6 = .ok (.invokestatic 300, 3) := by decide +kernel
theorem d_AR_copyOf_9 : decode b_AR_copyOf 9 = .ok (.areturn, 1) := by decide +kernel
theorem d_AR_copyOf3_0 : decode b_AR_copyOf3 0 = .ok (.aload_n 2, 1) := by decide +kernel
theorem d_AR_copyOf3_1 : decode b_AR_copyOf3 1 = .ok (.ldc 110, 2) := by decide +kernel
theorem d_AR_copyOf3_3 : decode b_AR_copyOf3 3 = .ok (.if_acmp .ne 10, 3) := by decide +kernel
theorem d_AR_copyOf3_6 : decode b_AR_copyOf3 6 = .ok (.iload_n 1, 1) := by decide +kernel
theorem d_AR_copyOf3_7 : decode b_AR_copyOf3 7 = .ok (.anewarray 2, 3) := by decide +kernel
theorem d_AR_copyOf3_10 : decode b_AR_copyOf3 10 = .ok (.goto 14, 3) := by decide +kernel
theorem d_AR_copyOf3_13 : decode b_AR_copyOf3 13 = .ok (.aload_n 2, 1) := by decide +kernel
theorem d_AR_copyOf3_14 : decode b_AR_copyOf3 14 = .ok (.invokevirtual 90, 3) := by decide +kernel
theorem d_AR_copyOf3_17 : decode b_AR_copyOf3 17 = .ok (.iload_n 1, 1) := by decide +kernel
theorem d_AR_copyOf3_18 : decode b_AR_copyOf3 18 = .ok (.invokestatic 95, 3) := by decide +kernel
theorem d_AR_copyOf3_21 : decode b_AR_copyOf3 21 = .ok (.checkcast 110, 3) := by decide +kernel
theorem d_AR_copyOf3_24 : decode b_AR_copyOf3 24 = .ok (.astore_n 3, 1) := by decide +kernel
theorem d_AR_copyOf3_25 : decode b_AR_copyOf3 25 = .ok (.aload_n 0, 1) := by decide +kernel
theorem d_AR_copyOf3_26 : decode b_AR_copyOf3 26 = .ok (.iconst 0, 1) := by decide +kernel
theorem d_AR_copyOf3_27 : decode b_AR_copyOf3 27 = .ok (.aload_n 3, 1) := by decide +kernel
theorem d_AR_copyOf3_28 : decode b_AR_copyOf3 28 = .ok (.iconst 0, 1) := by decide +kernel
theorem d_AR_copyOf3_29 : decode b_AR_copyOf3 29 = .ok (.aload_n 0, 1) := by decide +kernel
theorem d_AR_copyOf3_30 : decode b_AR_copyOf3 30 = .ok (.arraylength, 1) := by decide +kernel
theorem d_AR_copyOf3_31 : decode b_AR_copyOf3 31 = .ok (.iload_n 1, 1) := by decide +kernel
theorem d_AR_copyOf3_32 : decode b_AR_copyOf3 32 = .ok (.invokestatic 304, 3) := by decide +kernel
theorem d_AR_copyOf3_35 : decode b_AR_copyOf3 35 = .ok (.invokestatic 150, 3) := by decide +kernel
theorem d_AR_copyOf3_38 : decode b_AR_copyOf3 38 = .ok (.aload_n 3, 1) := by decide +kernel
theorem d_AR_copyOf3_39 : decode b_AR_copyOf3 39 = .ok (.areturn, 1) := by decide +kernel
/-- the list's array: none yet, or its own of ten or fifteen places -/
def LOk (j kd : Nat) (eE : Nat × Nat) (σ : ST) (n : Nat) : Prop := (gE σ j = eE.1 ∧ n = 0) ∨ (gE σ j ∈ pL σ ∧ pK σ (gE σ j) = 0 ∧ n ≤ pC σ (gE σ j) ∧ (pC σ (gE σ j) = 10 ∨ pC σ (gE σ j) = 15 ∧ n < 15) ∧ allIn σ (gE σ j) 0 n kd = true)
def GrR (z j n : Nat) (σ τ : ST) (q : Nat) : Prop := ∃ (c : Nat) (f : Nat → Option Nat), q ∉ pL σ ∧ q ≠ z ∧ n < c ∧ (c = 10 ∨ c = 15) ∧ (∀ i, i < n → f i = pR σ (gE σ j) i) ∧ τ = sE (sN σ q 0 (fun _ => 0) c f) j q
def AddR (z j sz e n : Nat) (σ σ' : ST) : Prop := (gE σ j ∈ pL σ ∧ pK σ (gE σ j) = 0 ∧ n < pC σ (gE σ j) ∧ σ' = sI (sQ σ (gE σ j) n (some e)) sz (nI (n + 1))) ∨ ∃ (q : Nat) (τ : ST), GrR z j n σ τ q ∧ σ' = sI (sQ τ q n (some e)) sz (nI (n + 1))
set_option maxRecDepth 100000 in
set_option maxHeartbeats 4000000 in
theorem m_AR_copyOf3_2 (l : Launch) (D : va_G) (ad : Nat → Nat) (cs : Nat → ClassId) (eE : Nat × Nat) (a N : Nat) (σ : ST) (ha : a ∈ pL σ ∧ pK σ a = 0) (hall : allIn σ a 0 (pC σ a) 2 = true) (hN : pC σ a ≤ N) (hN2 : N ≤ 1000) : MS l y_AR_copyOf3 (Cond.code y_AR_copyOf3 b_AR_copyOf3 4 r_AR_copyOf3 :: BIG) 1 26 1 N (wfm ad cs) D (ttf cs) eE [.ref a, .int (nI N), .ref eE.2] σ (fun v σ' => ∃ q : Nat, (q ∉ pL σ ∧ q ≠ eE.1) ∧ v = some (.ref q) ∧ σ' = sN σ q 0 (fun _ => 0) N (va_cpy (pR σ a) (fun _ => none) 0 0 (pC σ a))) := by
  refine MS.of (cc := b_AR_copyOf3) (maxL := 4) (ret := r_AR_copyOf3) (by decide) rfl (Nat.le_of_ble_eq_true rfl) (loc := [(0, .ref a), (1, .int (nI N)), (2, .ref eE.2)]) rfl (fun X C Rt => ?_)
  refine j_aload_n C 2 rfl rfl d_AR_copyOf3_0 ?_
  refine j_ldcM C (List.mem_cons_of_mem _ wd_3_91) d_AR_copyOf3_1 ?_
  refine j_acmp_ne C d_AR_copyOf3_3 rfl (fun h => absurd rfl h) (fun _ => ?_)
  refine j_iload_n C 1 rfl rfl d_AR_copyOf3_6 ?_
  refine j_newq0 C 5 (List.mem_cons_of_mem _ wd_3_93) (fun U h => h.2.2.2.2.2) rfl (nI_pos (by omega)) (nI_clamp (by omega)) (by omega) (by decide) (by omega) d_AR_copyOf3_7 (fun q hq hqz => ?_)
  have hqL : q ∉ pL σ := fr_pool hq
  have haq : a ≠ q := fun h => hqL (h ▸ ha.1)
  obtain ⟨f1, f2, f3, f4⟩ := sN_ne (σ := σ) (kd := 0) (c := N) (p := fun _ => 0) (f := fun _ => none) haq
  obtain ⟨g1, g2, g3, g4⟩ := sN_eq (σ := σ) (q := q) (kd := 0) (c := N) (p := fun _ => 0) (f := fun _ => none)
  refine ⟨sN σ q 0 (fun _ => 0) N (fun _ => none), by rw [sN_wf hqL, sN_pf0]; rfl, ?_⟩
  have hin : a ∈ pL (sN σ q 0 (fun _ => 0) N (fun _ => none)) ∧ pK (sN σ q 0 (fun _ => 0) N (fun _ => none)) a = 0 := ⟨List.mem_append_left _ ha.1, by rw [f1]; exact ha.2⟩
  have hiq : q ∈ pL (sN σ q 0 (fun _ => 0) N (fun _ => none)) ∧ pK (sN σ q 0 (fun _ => 0) N (fun _ => none)) q = 0 := ⟨List.mem_append_right _ (List.mem_cons_self), g1⟩
  refine j_goto C d_AR_copyOf3_10 rfl ?_
  refine j_astore_n C rfl (by decide) (loc' := [(3, .ref q), (0, .ref a), (1, .int (nI N)), (2, .ref eE.2)]) rfl d_AR_copyOf3_24 ?_
  refine j_aload_n C 1 rfl rfl d_AR_copyOf3_25 ?_
  refine j_iconst C (v := 0) (by decide) d_AR_copyOf3_26 ?_
  refine j_aload_n C 0 rfl rfl d_AR_copyOf3_27 ?_
  refine j_iconst C (v := 0) (by decide) d_AR_copyOf3_28 ?_
  refine j_aload_n C 1 rfl rfl d_AR_copyOf3_29 ?_
  refine j_alen (ty := .object "java/lang/Object") C 5 (rdp0 hin) rfl d_AR_copyOf3_30 ?_
  refine j_iload_n C 2 rfl rfl d_AR_copyOf3_31 ?_
  refine j_mmin C (List.mem_cons_of_mem _ wd_3_94) (List.mem_cons_of_mem _ wd_2_142) (List.mem_cons_of_mem _ wd_1_14) (List.mem_cons_of_mem _ wm_min) (by decide) (Nat.le_of_ble_eq_true rfl) (by decide) (by omega) d_AR_copyOf3_32 ?_
  refine j_topI (x := nI (pC σ a)) (by rw [f3]; exact (imin_nI hN (by omega)).symm) ?_
  have hz : (nI (pC σ a)).toNatClampNeg = pC σ a := nI_clamp (by omega)
  have h0 : (0 : Int32).toNatClampNeg = 0 := by decide
  refine j_copyq2 (σ' := sN σ q 0 (fun _ => 0) N (va_cpy (pR σ a) (fun _ => none) 0 0 (pC σ a))) (Cn := "TollLedger$Offer") (T := T_OF) (N := 6) (ci := 7) (n0 := pC σ a) (n1 := N) (f := pR σ a) (g := fun _ => none) (c0 := cs 5) C 5 ?_ ?_ rfl ?_ rfl (by decide +kernel) (List.mem_cons_of_mem _ wd_3_95) (List.mem_cons_of_mem _ wd_2_182) (List.mem_cons_of_mem _ wd_2_181) (List.mem_cons_of_mem _ wd_1_15) (by decide) (by decide) (nI_pos (by omega)) (by rw [hz, h0]; omega) (by rw [hz, h0]; omega) (by decide) (Nat.le_of_ble_eq_true rfl) d_AR_copyOf3_35 ?_
  · have := rdp0 (ad := ad) (cs := cs) hin
    rw [f3, f4] at this
    exact this
  · rw [hz, h0]
    have := wrp0 (ad := ad) (cs := cs) (f := va_cpy (pR σ a) (fun _ => none) 0 0 (pC σ a)) hiq
    rw [g3, g4, sN_sF] at this
    exact this
  · intro i hi y hy
    rw [hz] at hi
    rw [h0] at hy
    have hm := allIn_at hall i hi y hy
    have hyq : y ≠ q := fun h => hqL (h ▸ hm.1)
    exact ⟨_, rdp2 (ad := ad) (cs := cs) ⟨List.mem_append_left _ hm.1, by rw [(sN_ne hyq).1]; exact hm.2⟩⟩
  refine j_aload_n C 0 rfl rfl d_AR_copyOf3_38 ?_
  exact j_aret C Rt (Or.inr ⟨_, rfl⟩) (by decide) (by omega) d_AR_copyOf3_39 ⟨q, ⟨hqL, hqz⟩, rfl, rfl⟩
set_option maxRecDepth 100000 in
set_option maxHeartbeats 4000000 in
theorem m_AR_copyOf_2 (l : Launch) (D : va_G) (ad : Nat → Nat) (cs : Nat → ClassId) (eE : Nat × Nat) (a N : Nat) (σ : ST) (ha : a ∈ pL σ ∧ pK σ a = 0) (hall : allIn σ a 0 (pC σ a) 2 = true) (hN : pC σ a ≤ N) (hN2 : N ≤ 1000) : MS l y_AR_copyOf (Cond.code y_AR_copyOf b_AR_copyOf 2 r_AR_copyOf :: BIG) 2 49 1 N (wfm ad cs) D (ttf cs) eE [.ref a, .int (nI N)] σ (fun v σ' => ∃ q : Nat, (q ∉ pL σ ∧ q ≠ eE.1) ∧ v = some (.ref q) ∧ σ' = sN σ q 0 (fun _ => 0) N (va_cpy (pR σ a) (fun _ => none) 0 0 (pC σ a))) := by
  refine MS.of (cc := b_AR_copyOf) (maxL := 2) (ret := r_AR_copyOf) (by decide) rfl (Nat.le_of_ble_eq_true rfl) (loc := [(0, .ref a), (1, .int (nI N))]) rfl (fun X C Rt => ?_)
  refine j_aload_n C 0 rfl rfl d_AR_copyOf_0 ?_
  refine j_iload_n C 1 rfl rfl d_AR_copyOf_1 ?_
  refine j_aload_n C 0 rfl rfl d_AR_copyOf_2 ?_
  refine j_getC C 5 (rdp0 ha) rfl (List.mem_cons_of_mem _ wd_3_73) (List.mem_cons_of_mem _ wd_5_102) (List.mem_cons_of_mem _ wd_3_74) (List.mem_cons_of_mem _ wd_3_87) (by decide) (Nat.le_of_ble_eq_true rfl) d_AR_copyOf_3 ?_
  refine j_callS C [.ref a, .int (nI N), .ref eE.2] [] (m_AR_copyOf3_2 _ _ _ _ _ a N σ ha hall hN hN2) (gdS wd_3_88 wd_3_89 wd_1_18 wc_AR_copyOf3) hy_AR_copyOf3 rfl rfl (by decide) (by decide) (by decide) (by omega) (Nat.le_of_ble_eq_true rfl) d_AR_copyOf_6 (fun v σ' h => ?_)
  obtain ⟨q, hq, rfl, rfl⟩ := h
  exact j_aret C Rt (Or.inr ⟨_, rfl⟩) (by decide) (by omega) d_AR_copyOf_9 ⟨q, hq, rfl, rfl⟩
set_option maxRecDepth 100000 in
set_option maxHeartbeats 4000000 in
theorem m_AL_grow1_OL (l : Launch) (D : va_G) (ad : Nat → Nat) (cs : Nat → ClassId) (eE : Nat × Nat) (n : Nat) (σ : ST) (hn : (gE σ 0 = eE.1 ∧ n = 0) ∨ (gE σ 0 ∈ pL σ ∧ pK σ (gE σ 0) = 0 ∧ pC σ (gE σ 0) = 10 ∧ n = 10 ∧ allIn σ (gE σ 0) 0 10 2 = true)) : MS l y_AL_grow1 (Cond.code y_AL_grow1 b_AL_grow1 4 r_AL_grow1 :: BIG) 3 70 1 15 (wfm ad cs) D (ttf cs) eE [.ref (ad 6), .int (nI (n + 1))] σ (fun v σ' => ∃ q : Nat, v = some (.ref q) ∧ GrR eE.1 0 n σ σ' q) := by
  refine MS.of (cc := b_AL_grow1) (maxL := 4) (ret := r_AL_grow1) (by decide) rfl (Nat.le_of_ble_eq_true rfl) (loc := [(0, .ref (ad 6)), (1, .int (nI (n + 1)))]) rfl (fun X C Rt => ?_)
  refine j_aload_n C 0 rfl rfl d_AL_grow1_0 ?_
  refine g_OL_elementData C (List.mem_cons_of_mem _ wd_1_72) d_AL_grow1_1 ?_
  rcases hn with ⟨ha, rfl⟩ | ⟨ha1, ha2, ha3, rfl, hall⟩
  · rw [ha]
    refine j_tlen0 C d_AL_grow1_4 ?_
    refine j_istore_n C rfl (by decide) (loc' := [(2, .int 0), (0, .ref (ad 6)), (1, .int (nI (0 + 1)))]) rfl d_AL_grow1_5 ?_
    refine j_iload_n C 0 rfl rfl d_AL_grow1_6 ?_
    refine j_if_gt C d_AL_grow1_7 rfl (fun h => absurd h (by decide)) (fun _ => ?_)
    refine j_aload_n C 1 rfl rfl d_AL_grow1_10 ?_
    refine g_OL_elementData C (List.mem_cons_of_mem _ wd_1_72) d_AL_grow1_11 ?_
    refine j_gets0 C (List.mem_cons_of_mem _ wd_1_70) d_AL_grow1_14 ?_
    refine j_acmp_eq C d_AL_grow1_17 rfl (fun _ => ?_) (fun h => absurd ha h)
    refine j_aload_n C 1 rfl rfl d_AL_grow1_45 ?_
    refine j_bipush C (v := 10) (by decide) d_AL_grow1_46 ?_
    refine j_iload_n C 2 rfl rfl d_AL_grow1_48 ?_
    refine j_mmax C (List.mem_cons_of_mem _ wd_3_96) (List.mem_cons_of_mem _ wd_2_75) (List.mem_cons_of_mem _ wd_1_14) (List.mem_cons_of_mem _ wm_max) (by decide) (Nat.le_of_ble_eq_true rfl) (by decide) (by decide) d_AL_grow1_49 ?_
    refine j_newq0 (N := 10) C 5 (List.mem_cons_of_mem _ wd_3_97) (fun U h => h.2.2.2.2.2) rfl (by decide) (by decide) (by decide) (by decide) (by decide) d_AL_grow1_52 (fun q hq hqz => ?_)
    have hqL : q ∉ pL σ := fr_pool hq
    refine ⟨sN σ q 0 (fun _ => 0) 10 (fun _ => none), by rw [sN_wf hqL, sN_pf0]; rfl, ?_⟩
    refine j_dup_x1 C rfl rfl d_AL_grow1_55 ?_
    refine p_OL_elementData C rfl (List.mem_cons_of_mem _ wd_1_72) d_AL_grow1_56 ?_
    exact j_aret C Rt (Or.inr ⟨_, rfl⟩) (by decide) (by decide) d_AL_grow1_59 ⟨q, rfl, 10, fun _ => none, hqL, hqz, by decide, Or.inl rfl, fun i hi => absurd hi (Nat.not_lt_zero i), rfl⟩
  · refine j_alen (ty := .object "java/lang/Object") C 5 (rdp0 ⟨ha1, ha2⟩) rfl d_AL_grow1_4 ?_
    refine j_topI (x := nI 10) (by rw [ha3]) ?_
    refine j_istore_n C rfl (by decide) (loc' := [(2, .int (nI 10)), (0, .ref (ad 6)), (1, .int (nI (10 + 1)))]) rfl d_AL_grow1_5 ?_
    refine j_iload_n C 0 rfl rfl d_AL_grow1_6 ?_
    refine j_if_gt C d_AL_grow1_7 rfl (fun _ => ?_) (fun h => absurd (by decide) h)
    refine j_iload_n C 0 rfl rfl d_AL_grow1_20 ?_
    refine j_iload_n C 2 rfl rfl d_AL_grow1_21 ?_
    refine j_iload_n C 0 rfl rfl d_AL_grow1_22 ?_
    refine j_isub C d_AL_grow1_23 ?_
    refine j_iload_n C 0 rfl rfl d_AL_grow1_24 ?_
    refine j_iconst C (v := 1) (by decide) d_AL_grow1_25 ?_
    refine j_ishr C d_AL_grow1_26 ?_
    have hnl : AS_newLength (nI 10) (nI (10 + 1) - nI 10) (nI 10 >>> ((1 : Int32) &&& 31)) = some (nI 15) := by decide +kernel
    refine j_callS C [.int (nI 10), .int (nI (10 + 1) - nI 10), .int (nI 10 >>> ((1 : Int32) &&& 31))] [] (m_AS_newLength _ _ _ _ _ _ _ _ σ hnl) (gdS wd_3_62 wd_3_63 wd_1_17 wc_AS_newLength) hy_AS_newLength rfl rfl (by decide) (by decide) (by decide) (by decide) (Nat.le_of_ble_eq_true rfl) d_AL_grow1_27 (j_kI (r := nI 15) (σ1 := σ) ?_)
    refine j_istore_n C rfl (by decide) (loc' := [(3, .int (nI 15)), (2, .int (nI 10)), (0, .ref (ad 6)), (1, .int (nI (10 + 1)))]) rfl d_AL_grow1_30 ?_
    refine j_aload_n C 2 rfl rfl d_AL_grow1_31 ?_
    refine j_aload_n C 2 rfl rfl d_AL_grow1_32 ?_
    refine g_OL_elementData C (List.mem_cons_of_mem _ wd_1_72) d_AL_grow1_33 ?_
    refine j_iload_n C 0 rfl rfl d_AL_grow1_36 ?_
    refine j_callS C [.ref (gE σ 0), .int (nI 15)] [.ref (ad 6)] (m_AR_copyOf_2 _ _ _ _ _ (gE σ 0) 15 σ ⟨ha1, ha2⟩ (by rw [ha3]; exact hall) (by omega) (by decide)) (gdS wd_3_70 wd_3_71 wd_1_18 wc_AR_copyOf) hy_AR_copyOf rfl rfl (by decide) (by decide) (by decide) (by decide) (Nat.le_of_ble_eq_true rfl) d_AL_grow1_37 (fun v σ' h => ?_)
    obtain ⟨q, hqL, rfl, rfl⟩ := h
    refine j_dup_x1 (vb := .ref (ad 6)) C rfl rfl d_AL_grow1_40 ?_
    refine p_OL_elementData C rfl (List.mem_cons_of_mem _ wd_1_72) d_AL_grow1_41 ?_
    exact j_aret C Rt (Or.inr ⟨_, rfl⟩) (by decide) (by decide) d_AL_grow1_44 ⟨q, rfl, 15, _, hqL.1, hqL.2, by decide, Or.inr rfl, fun i hi => by rw [ha3, pk_cpy_in (Nat.zero_le _) (by omega)]; congr 1; omega, rfl⟩
set_option maxRecDepth 100000 in
set_option maxHeartbeats 4000000 in
theorem m_AL_grow_OL (l : Launch) (D : va_G) (ad : Nat → Nat) (cs : Nat → ClassId) (eE : Nat × Nat) (n : Nat) (σ : ST) (hs : gI σ 18 = nI n) (hn : (gE σ 0 = eE.1 ∧ n = 0) ∨ (gE σ 0 ∈ pL σ ∧ pK σ (gE σ 0) = 0 ∧ pC σ (gE σ 0) = 10 ∧ n = 10 ∧ allIn σ (gE σ 0) 0 10 2 = true)) : MS l y_AL_grow (Cond.code y_AL_grow b_AL_grow 1 r_AL_grow :: BIG) 4 93 1 15 (wfm ad cs) D (ttf cs) eE [.ref (ad 6)] σ (fun v σ' => ∃ q : Nat, v = some (.ref q) ∧ GrR eE.1 0 n σ σ' q) := by
  refine MS.of (cc := b_AL_grow) (maxL := 1) (ret := r_AL_grow) (by decide) rfl (Nat.le_of_ble_eq_true rfl) (loc := [(0, .ref (ad 6))]) rfl (fun X C Rt => ?_)
  refine j_aload_n C 0 rfl rfl d_AL_grow_0 ?_
  refine j_aload_n C 0 rfl rfl d_AL_grow_1 ?_
  refine g_OL_size C (List.mem_cons_of_mem _ wd_1_73) d_AL_grow_2 ?_
  refine j_iconst C (v := 1) (by decide) d_AL_grow_5 ?_
  refine j_iadd C d_AL_grow_6 ?_
  refine j_topI (x := nI (n + 1)) (by rw [hs, nI_1]) ?_
  refine j_callV (ci := 9) (Cn := "java/util/ArrayList") (T := T_AL) (N := 3) C [.int (nI (n + 1))] [] (m_AL_grow1_OL _ _ _ _ _ n σ hn) (gdV wd_3_58 wd_3_60 wp_14 wd_1_6 wc_AL_grow1) hy_AL_grow1 rfl ⟨6, rfl⟩ rfl rfl (by decide) (by decide) (by decide) (by decide) (Nat.le_of_ble_eq_true rfl) d_AL_grow_7 (fun v σ' h => ?_)
  obtain ⟨q, rfl, hg⟩ := h
  exact j_aret C Rt (Or.inr ⟨_, rfl⟩) (by decide) (by decide) d_AL_grow_10 ⟨q, rfl, hg⟩
/-- behind the growing: the element is put at its place, the size grows -/
theorem al_tail_OL {X : JX} {l : Launch} {D : va_G} {ad : Nat → Nat} {cs : Nat → ClassId} {eE : Nat × Nat} {k m : Nat} {P : Option Value → ST → Prop} {e a n : Nat} {τ : ST} (C : JC X l D (ttf cs) eE b_AL_add3 y_AL_add3.cls 4 (Cond.code y_AL_add3 b_AL_add3 4 r_AL_add3 :: BIG) 5 113 1 15) (Rt : JR X (wfm ad cs) 1 15 P r_AL_add3 y_AL_add3.name) (hk : k ≤ 1) (hm : m ≤ 15) (he : e ∈ pL τ ∧ pK τ e = 2) (ha : a ∈ pL τ ∧ pK τ a = 0) (hn : n < pC τ a) (hc : pC τ a ≤ 15) (hP : P none (sI (sQ τ a n (some e)) 18 (nI (n + 1)))) : J (wfm ad cs) X 4 k m τ 11 [(0, .ref (ad 6)), (1, .ref e), (2, .ref a), (3, .int (nI n))] [] := by
  have hcl : (nI n).toNatClampNeg = n := nI_clamp (by omega)
  refine j_aload_n C 2 rfl rfl d_AL_add3_11 ?_
  refine j_iload_n C 3 rfl rfl d_AL_add3_12 ?_
  refine j_aload_n C 1 rfl rfl d_AL_add3_13 ?_
  refine j_aastO (σ' := sQ τ a n (some e)) (r := ("TollLedger$Offer", T_OF, 6)) (E := "java/lang/Object") (cA := cs 5) (N := pC τ a) (f := pR τ a) C 5 (by rw [hcl]; exact wrp0 ha) rfl (by decide +kernel) (rdp2 he) rfl (by rw [hcl]; exact fun h => h.elim (nI_pos (by omega)) (by omega)) d_AL_add3_14 ?_
  refine j_aload_n C 0 rfl rfl d_AL_add3_15 ?_
  refine j_iload_n C 3 rfl rfl d_AL_add3_16 ?_
  refine j_iconst C (v := 1) (by decide) d_AL_add3_17 ?_
  refine j_iadd C d_AL_add3_18 ?_
  refine j_topI (x := nI (n + 1)) (nI_1 n).symm ?_
  refine p_OL_size C rfl (List.mem_cons_of_mem _ wd_1_73) d_AL_add3_19 ?_
  exact j_vret C Rt hk hm d_AL_add3_22 hP
set_option maxRecDepth 100000 in
set_option maxHeartbeats 4000000 in
theorem m_AL_add3_OL (l : Launch) (D : va_G) (ad : Nat → Nat) (cs : Nat → ClassId) (eE : Nat × Nat) (e n : Nat) (σ : ST) (he : e ∈ pL σ ∧ pK σ e = 2) (hs : gI σ 18 = nI n) (hn : n ≤ 14) (hL : LOk 0 2 eE σ n) : MS l y_AL_add3 (Cond.code y_AL_add3 b_AL_add3 4 r_AL_add3 :: BIG) 5 113 1 15 (wfm ad cs) D (ttf cs) eE [.ref (ad 6), .ref e, .ref (gE σ 0), .int (nI n)] σ (fun v σ' => v = none ∧ AddR eE.1 0 18 e n σ σ') := by
  refine MS.of (cc := b_AL_add3) (maxL := 4) (ret := r_AL_add3) (by decide) rfl (Nat.le_of_ble_eq_true rfl) (loc := [(0, .ref (ad 6)), (1, .ref e), (2, .ref (gE σ 0)), (3, .int (nI n))]) rfl (fun X C Rt => ?_)
  have grow : ((gE σ 0 = eE.1 ∧ n = 0) ∨ (gE σ 0 ∈ pL σ ∧ pK σ (gE σ 0) = 0 ∧ pC σ (gE σ 0) = 10 ∧ n = 10 ∧ allIn σ (gE σ 0) 0 10 2 = true)) → J (wfm ad cs) X 4 0 0 σ 6 [(0, .ref (ad 6)), (1, .ref e), (2, .ref (gE σ 0)), (3, .int (nI n))] [] := by
    intro hg
    refine j_aload_n C 0 rfl rfl d_AL_add3_6 ?_
    refine j_callV (ci := 9) (Cn := "java/util/ArrayList") (T := T_AL) (N := 3) C [] [] (m_AL_grow_OL _ _ _ _ _ n σ hs hg) (gdV wd_3_54 wd_3_56 wp_13 wd_1_6 wc_AL_grow) hy_AL_grow rfl ⟨6, rfl⟩ rfl rfl (by decide) (by decide) (by decide) (by decide) (Nat.le_of_ble_eq_true rfl) d_AL_add3_7 (fun v τ h => ?_)
    obtain ⟨q, rfl, hg⟩ := h
    have hg' := hg
    obtain ⟨cc, f, hq, hqz, hnc, hcc, hf, rfl⟩ := hg
    refine j_astore_n C rfl (by decide) (loc' := [(2, .ref q), (0, .ref (ad 6)), (1, .ref e), (3, .int (nI n))]) rfl d_AL_add3_10 ?_
    refine j_sub (loc' := [(0, .ref (ad 6)), (1, .ref e), (2, .ref q), (3, .int (nI n))]) [1, 2, 0, 3] rfl ?_
    have heq : e ≠ q := fun h => hq (h ▸ he.1)
    have hC : pC (sE (sN σ q 0 (fun _ => 0) cc f) 0 q) q = cc := (sN_eq (σ := σ) (q := q) (kd := 0) (c := cc) (p := fun _ => 0) (f := f)).2.2.1
    exact al_tail_OL C Rt (by decide) (by decide) ⟨List.mem_append_left _ he.1, (sN_ne (σ := σ) (q := q) (a := e) (kd := 0) (c := cc) (p := fun _ => 0) (f := f) heq).1.trans he.2⟩ ⟨List.mem_append_right _ List.mem_cons_self, (sN_eq (σ := σ) (q := q) (kd := 0) (c := cc) (p := fun _ => 0) (f := f)).1⟩ (by rw [hC]; exact hnc) (by rw [hC]; omega) ⟨rfl, Or.inr ⟨q, _, hg', rfl⟩⟩
  refine j_iload_n C 3 rfl rfl d_AL_add3_0 ?_
  refine j_aload_n C 2 rfl rfl d_AL_add3_1 ?_
  rcases hL with ⟨h1, rfl⟩ | ⟨h1, h2, h3, h4, h5⟩
  · rw [h1]
    refine j_tlen0 C d_AL_add3_2 ?_
    refine j_icmp_ne C d_AL_add3_3 rfl (fun h => absurd (by decide) h) (fun _ => ?_)
    rw [← h1]
    exact grow (Or.inl ⟨h1, rfl⟩)
  · refine j_alen (ty := .object "java/lang/Object") C 5 (rdp0 ⟨h1, h2⟩) rfl d_AL_add3_2 ?_
    refine j_icmp_ne C d_AL_add3_3 rfl (fun h => ?_) (fun h => ?_)
    · have hne : n ≠ pC σ (gE σ 0) := fun z => h (by rw [z])
      exact al_tail_OL C Rt (by decide) (by decide) he ⟨h1, h2⟩ (by omega) (by omega) ⟨rfl, Or.inl ⟨h1, h2, by omega, rfl⟩⟩
    · have hnn : n = pC σ (gE σ 0) := (nI_eq (by omega) (by omega)).mp h
      rcases h4 with h4 | h4
      · rw [h4] at hnn
        subst hnn
        exact grow (Or.inr ⟨h1, h2, h4, rfl, h5⟩)
      · omega
set_option maxRecDepth 100000 in
set_option maxHeartbeats 4000000 in
theorem m_AL_add_OL (l : Launch) (D : va_G) (ad : Nat → Nat) (cs : Nat → ClassId) (eE : Nat × Nat) (e n : Nat) (σ : ST) (he : e ∈ pL σ ∧ pK σ e = 2) (hs : gI σ 18 = nI n) (hn : n ≤ 14) (hL : LOk 0 2 eE σ n) : MS l y_AL_add (Cond.code y_AL_add b_AL_add 2 r_AL_add :: BIG) 6 136 1 15 (wfm ad cs) D (ttf cs) eE [.ref (ad 6), .ref e] σ (fun v σ' => v = some (.int 1) ∧ AddR eE.1 0 18 e n (sI σ 17 (gI σ 17 + 1)) σ') := by
  refine MS.of (cc := b_AL_add) (maxL := 2) (ret := r_AL_add) (by decide) rfl (Nat.le_of_ble_eq_true rfl) (loc := [(0, .ref (ad 6)), (1, .ref e)]) rfl (fun X C Rt => ?_)
  refine j_aload_n C 0 rfl rfl d_AL_add_0 ?_
  refine j_dup C rfl d_AL_add_1 ?_
  refine g_OL_modCount C (List.mem_cons_of_mem _ wd_1_75) d_AL_add_2 ?_
  refine j_iconst C (v := 1) (by decide) d_AL_add_5 ?_
  refine j_iadd C d_AL_add_6 ?_
  refine p_OL_modCount C rfl (List.mem_cons_of_mem _ wd_1_75) d_AL_add_7 ?_
  refine j_aload_n C 0 rfl rfl d_AL_add_10 ?_
  refine j_aload_n C 1 rfl rfl d_AL_add_11 ?_
  refine j_aload_n C 0 rfl rfl d_AL_add_12 ?_
  refine g_OL_elementData C (List.mem_cons_of_mem _ wd_1_72) d_AL_add_13 ?_
  refine j_aload_n C 0 rfl rfl d_AL_add_16 ?_
  refine g_OL_size C (List.mem_cons_of_mem _ wd_1_73) d_AL_add_17 ?_
  refine j_topI (x := nI n) hs.symm ?_
  refine j_callV (ci := 9) (Cn := "java/util/ArrayList") (T := T_AL) (N := 3) C [.ref e, .ref (gE σ 0), .int (nI n)] [] (m_AL_add3_OL _ _ _ _ _ e n (sI σ 17 (gI σ 17 + 1)) he hs hn hL) (gdV wd_3_50 wd_3_52 wp_12 wd_1_6 wc_AL_add3) hy_AL_add3 rfl ⟨6, rfl⟩ rfl rfl (by decide) (by decide) (by decide) (by decide) (Nat.le_of_ble_eq_true rfl) d_AL_add_20 (fun v σ' h => ?_)
  obtain ⟨rfl, hg⟩ := h
  refine j_iconst (v := 1) C (by decide) d_AL_add_23 ?_
  exact j_zret C Rt (Or.inr rfl) (by decide) (by decide) d_AL_add_24 ⟨rfl, hg⟩
set_option maxRecDepth 100000 in
set_option maxHeartbeats 4000000 in
theorem m_AR_copyOf3_3 (l : Launch) (D : va_G) (ad : Nat → Nat) (cs : Nat → ClassId) (eE : Nat × Nat) (a N : Nat) (σ : ST) (ha : a ∈ pL σ ∧ pK σ a = 0) (hall : allIn σ a 0 (pC σ a) 3 = true) (hN : pC σ a ≤ N) (hN2 : N ≤ 1000) : MS l y_AR_copyOf3 (Cond.code y_AR_copyOf3 b_AR_copyOf3 4 r_AR_copyOf3 :: BIG) 1 26 1 N (wfm ad cs) D (ttf cs) eE [.ref a, .int (nI N), .ref eE.2] σ (fun v σ' => ∃ q : Nat, (q ∉ pL σ ∧ q ≠ eE.1) ∧ v = some (.ref q) ∧ σ' = sN σ q 0 (fun _ => 0) N (va_cpy (pR σ a) (fun _ => none) 0 0 (pC σ a))) := by
  refine MS.of (cc := b_AR_copyOf3) (maxL := 4) (ret := r_AR_copyOf3) (by decide) rfl (Nat.le_of_ble_eq_true rfl) (loc := [(0, .ref a), (1, .int (nI N)), (2, .ref eE.2)]) rfl (fun X C Rt => ?_)
  refine j_aload_n C 2 rfl rfl d_AR_copyOf3_0 ?_
  refine j_ldcM C (List.mem_cons_of_mem _ wd_3_91) d_AR_copyOf3_1 ?_
  refine j_acmp_ne C d_AR_copyOf3_3 rfl (fun h => absurd rfl h) (fun _ => ?_)
  refine j_iload_n C 1 rfl rfl d_AR_copyOf3_6 ?_
  refine j_newq0 C 5 (List.mem_cons_of_mem _ wd_3_93) (fun U h => h.2.2.2.2.2) rfl (nI_pos (by omega)) (nI_clamp (by omega)) (by omega) (by decide) (by omega) d_AR_copyOf3_7 (fun q hq hqz => ?_)
  have hqL : q ∉ pL σ := fr_pool hq
  have haq : a ≠ q := fun h => hqL (h ▸ ha.1)
  obtain ⟨f1, f2, f3, f4⟩ := sN_ne (σ := σ) (kd := 0) (c := N) (p := fun _ => 0) (f := fun _ => none) haq
  obtain ⟨g1, g2, g3, g4⟩ := sN_eq (σ := σ) (q := q) (kd := 0) (c := N) (p := fun _ => 0) (f := fun _ => none)
  refine ⟨sN σ q 0 (fun _ => 0) N (fun _ => none), by rw [sN_wf hqL, sN_pf0]; rfl, ?_⟩
  have hin : a ∈ pL (sN σ q 0 (fun _ => 0) N (fun _ => none)) ∧ pK (sN σ q 0 (fun _ => 0) N (fun _ => none)) a = 0 := ⟨List.mem_append_left _ ha.1, by rw [f1]; exact ha.2⟩
  have hiq : q ∈ pL (sN σ q 0 (fun _ => 0) N (fun _ => none)) ∧ pK (sN σ q 0 (fun _ => 0) N (fun _ => none)) q = 0 := ⟨List.mem_append_right _ (List.mem_cons_self), g1⟩
  refine j_goto C d_AR_copyOf3_10 rfl ?_
  refine j_astore_n C rfl (by decide) (loc' := [(3, .ref q), (0, .ref a), (1, .int (nI N)), (2, .ref eE.2)]) rfl d_AR_copyOf3_24 ?_
  refine j_aload_n C 1 rfl rfl d_AR_copyOf3_25 ?_
  refine j_iconst C (v := 0) (by decide) d_AR_copyOf3_26 ?_
  refine j_aload_n C 0 rfl rfl d_AR_copyOf3_27 ?_
  refine j_iconst C (v := 0) (by decide) d_AR_copyOf3_28 ?_
  refine j_aload_n C 1 rfl rfl d_AR_copyOf3_29 ?_
  refine j_alen (ty := .object "java/lang/Object") C 5 (rdp0 hin) rfl d_AR_copyOf3_30 ?_
  refine j_iload_n C 2 rfl rfl d_AR_copyOf3_31 ?_
  refine j_mmin C (List.mem_cons_of_mem _ wd_3_94) (List.mem_cons_of_mem _ wd_2_142) (List.mem_cons_of_mem _ wd_1_14) (List.mem_cons_of_mem _ wm_min) (by decide) (Nat.le_of_ble_eq_true rfl) (by decide) (by omega) d_AR_copyOf3_32 ?_
  refine j_topI (x := nI (pC σ a)) (by rw [f3]; exact (imin_nI hN (by omega)).symm) ?_
  have hz : (nI (pC σ a)).toNatClampNeg = pC σ a := nI_clamp (by omega)
  have h0 : (0 : Int32).toNatClampNeg = 0 := by decide
  refine j_copyq2 (σ' := sN σ q 0 (fun _ => 0) N (va_cpy (pR σ a) (fun _ => none) 0 0 (pC σ a))) (Cn := "TollLedger$Deposit") (T := T_DP) (N := 6) (ci := 8) (n0 := pC σ a) (n1 := N) (f := pR σ a) (g := fun _ => none) (c0 := cs 5) C 5 ?_ ?_ rfl ?_ rfl (by decide +kernel) (List.mem_cons_of_mem _ wd_3_95) (List.mem_cons_of_mem _ wd_2_182) (List.mem_cons_of_mem _ wd_2_181) (List.mem_cons_of_mem _ wd_1_15) (by decide) (by decide) (nI_pos (by omega)) (by rw [hz, h0]; omega) (by rw [hz, h0]; omega) (by decide) (Nat.le_of_ble_eq_true rfl) d_AR_copyOf3_35 ?_
  · have := rdp0 (ad := ad) (cs := cs) hin
    rw [f3, f4] at this
    exact this
  · rw [hz, h0]
    have := wrp0 (ad := ad) (cs := cs) (f := va_cpy (pR σ a) (fun _ => none) 0 0 (pC σ a)) hiq
    rw [g3, g4, sN_sF] at this
    exact this
  · intro i hi y hy
    rw [hz] at hi
    rw [h0] at hy
    have hm := allIn_at hall i hi y hy
    have hyq : y ≠ q := fun h => hqL (h ▸ hm.1)
    exact ⟨_, rdp3 (ad := ad) (cs := cs) ⟨List.mem_append_left _ hm.1, by rw [(sN_ne hyq).1]; exact hm.2⟩⟩
  refine j_aload_n C 0 rfl rfl d_AR_copyOf3_38 ?_
  exact j_aret C Rt (Or.inr ⟨_, rfl⟩) (by decide) (by omega) d_AR_copyOf3_39 ⟨q, ⟨hqL, hqz⟩, rfl, rfl⟩
set_option maxRecDepth 100000 in
set_option maxHeartbeats 4000000 in
theorem m_AR_copyOf_3 (l : Launch) (D : va_G) (ad : Nat → Nat) (cs : Nat → ClassId) (eE : Nat × Nat) (a N : Nat) (σ : ST) (ha : a ∈ pL σ ∧ pK σ a = 0) (hall : allIn σ a 0 (pC σ a) 3 = true) (hN : pC σ a ≤ N) (hN2 : N ≤ 1000) : MS l y_AR_copyOf (Cond.code y_AR_copyOf b_AR_copyOf 2 r_AR_copyOf :: BIG) 2 49 1 N (wfm ad cs) D (ttf cs) eE [.ref a, .int (nI N)] σ (fun v σ' => ∃ q : Nat, (q ∉ pL σ ∧ q ≠ eE.1) ∧ v = some (.ref q) ∧ σ' = sN σ q 0 (fun _ => 0) N (va_cpy (pR σ a) (fun _ => none) 0 0 (pC σ a))) := by
  refine MS.of (cc := b_AR_copyOf) (maxL := 2) (ret := r_AR_copyOf) (by decide) rfl (Nat.le_of_ble_eq_true rfl) (loc := [(0, .ref a), (1, .int (nI N))]) rfl (fun X C Rt => ?_)
  refine j_aload_n C 0 rfl rfl d_AR_copyOf_0 ?_
  refine j_iload_n C 1 rfl rfl d_AR_copyOf_1 ?_
  refine j_aload_n C 0 rfl rfl d_AR_copyOf_2 ?_
  refine j_getC C 5 (rdp0 ha) rfl (List.mem_cons_of_mem _ wd_3_73) (List.mem_cons_of_mem _ wd_5_102) (List.mem_cons_of_mem _ wd_3_74) (List.mem_cons_of_mem _ wd_3_87) (by decide) (Nat.le_of_ble_eq_true rfl) d_AR_copyOf_3 ?_
  refine j_callS C [.ref a, .int (nI N), .ref eE.2] [] (m_AR_copyOf3_3 _ _ _ _ _ a N σ ha hall hN hN2) (gdS wd_3_88 wd_3_89 wd_1_18 wc_AR_copyOf3) hy_AR_copyOf3 rfl rfl (by decide) (by decide) (by decide) (by omega) (Nat.le_of_ble_eq_true rfl) d_AR_copyOf_6 (fun v σ' h => ?_)
  obtain ⟨q, hq, rfl, rfl⟩ := h
  exact j_aret C Rt (Or.inr ⟨_, rfl⟩) (by decide) (by omega) d_AR_copyOf_9 ⟨q, hq, rfl, rfl⟩
set_option maxRecDepth 100000 in
set_option maxHeartbeats 4000000 in
theorem m_AL_grow1_DL (l : Launch) (D : va_G) (ad : Nat → Nat) (cs : Nat → ClassId) (eE : Nat × Nat) (n : Nat) (σ : ST) (hn : (gE σ 1 = eE.1 ∧ n = 0) ∨ (gE σ 1 ∈ pL σ ∧ pK σ (gE σ 1) = 0 ∧ pC σ (gE σ 1) = 10 ∧ n = 10 ∧ allIn σ (gE σ 1) 0 10 3 = true)) : MS l y_AL_grow1 (Cond.code y_AL_grow1 b_AL_grow1 4 r_AL_grow1 :: BIG) 3 70 1 15 (wfm ad cs) D (ttf cs) eE [.ref (ad 7), .int (nI (n + 1))] σ (fun v σ' => ∃ q : Nat, v = some (.ref q) ∧ GrR eE.1 1 n σ σ' q) := by
  refine MS.of (cc := b_AL_grow1) (maxL := 4) (ret := r_AL_grow1) (by decide) rfl (Nat.le_of_ble_eq_true rfl) (loc := [(0, .ref (ad 7)), (1, .int (nI (n + 1)))]) rfl (fun X C Rt => ?_)
  refine j_aload_n C 0 rfl rfl d_AL_grow1_0 ?_
  refine g_DL_elementData C (List.mem_cons_of_mem _ wd_1_72) d_AL_grow1_1 ?_
  rcases hn with ⟨ha, rfl⟩ | ⟨ha1, ha2, ha3, rfl, hall⟩
  · rw [ha]
    refine j_tlen0 C d_AL_grow1_4 ?_
    refine j_istore_n C rfl (by decide) (loc' := [(2, .int 0), (0, .ref (ad 7)), (1, .int (nI (0 + 1)))]) rfl d_AL_grow1_5 ?_
    refine j_iload_n C 0 rfl rfl d_AL_grow1_6 ?_
    refine j_if_gt C d_AL_grow1_7 rfl (fun h => absurd h (by decide)) (fun _ => ?_)
    refine j_aload_n C 1 rfl rfl d_AL_grow1_10 ?_
    refine g_DL_elementData C (List.mem_cons_of_mem _ wd_1_72) d_AL_grow1_11 ?_
    refine j_gets0 C (List.mem_cons_of_mem _ wd_1_70) d_AL_grow1_14 ?_
    refine j_acmp_eq C d_AL_grow1_17 rfl (fun _ => ?_) (fun h => absurd ha h)
    refine j_aload_n C 1 rfl rfl d_AL_grow1_45 ?_
    refine j_bipush C (v := 10) (by decide) d_AL_grow1_46 ?_
    refine j_iload_n C 2 rfl rfl d_AL_grow1_48 ?_
    refine j_mmax C (List.mem_cons_of_mem _ wd_3_96) (List.mem_cons_of_mem _ wd_2_75) (List.mem_cons_of_mem _ wd_1_14) (List.mem_cons_of_mem _ wm_max) (by decide) (Nat.le_of_ble_eq_true rfl) (by decide) (by decide) d_AL_grow1_49 ?_
    refine j_newq0 (N := 10) C 5 (List.mem_cons_of_mem _ wd_3_97) (fun U h => h.2.2.2.2.2) rfl (by decide) (by decide) (by decide) (by decide) (by decide) d_AL_grow1_52 (fun q hq hqz => ?_)
    have hqL : q ∉ pL σ := fr_pool hq
    refine ⟨sN σ q 0 (fun _ => 0) 10 (fun _ => none), by rw [sN_wf hqL, sN_pf0]; rfl, ?_⟩
    refine j_dup_x1 C rfl rfl d_AL_grow1_55 ?_
    refine p_DL_elementData C rfl (List.mem_cons_of_mem _ wd_1_72) d_AL_grow1_56 ?_
    exact j_aret C Rt (Or.inr ⟨_, rfl⟩) (by decide) (by decide) d_AL_grow1_59 ⟨q, rfl, 10, fun _ => none, hqL, hqz, by decide, Or.inl rfl, fun i hi => absurd hi (Nat.not_lt_zero i), rfl⟩
  · refine j_alen (ty := .object "java/lang/Object") C 5 (rdp0 ⟨ha1, ha2⟩) rfl d_AL_grow1_4 ?_
    refine j_topI (x := nI 10) (by rw [ha3]) ?_
    refine j_istore_n C rfl (by decide) (loc' := [(2, .int (nI 10)), (0, .ref (ad 7)), (1, .int (nI (10 + 1)))]) rfl d_AL_grow1_5 ?_
    refine j_iload_n C 0 rfl rfl d_AL_grow1_6 ?_
    refine j_if_gt C d_AL_grow1_7 rfl (fun _ => ?_) (fun h => absurd (by decide) h)
    refine j_iload_n C 0 rfl rfl d_AL_grow1_20 ?_
    refine j_iload_n C 2 rfl rfl d_AL_grow1_21 ?_
    refine j_iload_n C 0 rfl rfl d_AL_grow1_22 ?_
    refine j_isub C d_AL_grow1_23 ?_
    refine j_iload_n C 0 rfl rfl d_AL_grow1_24 ?_
    refine j_iconst C (v := 1) (by decide) d_AL_grow1_25 ?_
    refine j_ishr C d_AL_grow1_26 ?_
    have hnl : AS_newLength (nI 10) (nI (10 + 1) - nI 10) (nI 10 >>> ((1 : Int32) &&& 31)) = some (nI 15) := by decide +kernel
    refine j_callS C [.int (nI 10), .int (nI (10 + 1) - nI 10), .int (nI 10 >>> ((1 : Int32) &&& 31))] [] (m_AS_newLength _ _ _ _ _ _ _ _ σ hnl) (gdS wd_3_62 wd_3_63 wd_1_17 wc_AS_newLength) hy_AS_newLength rfl rfl (by decide) (by decide) (by decide) (by decide) (Nat.le_of_ble_eq_true rfl) d_AL_grow1_27 (j_kI (r := nI 15) (σ1 := σ) ?_)
    refine j_istore_n C rfl (by decide) (loc' := [(3, .int (nI 15)), (2, .int (nI 10)), (0, .ref (ad 7)), (1, .int (nI (10 + 1)))]) rfl d_AL_grow1_30 ?_
    refine j_aload_n C 2 rfl rfl d_AL_grow1_31 ?_
    refine j_aload_n C 2 rfl rfl d_AL_grow1_32 ?_
    refine g_DL_elementData C (List.mem_cons_of_mem _ wd_1_72) d_AL_grow1_33 ?_
    refine j_iload_n C 0 rfl rfl d_AL_grow1_36 ?_
    refine j_callS C [.ref (gE σ 1), .int (nI 15)] [.ref (ad 7)] (m_AR_copyOf_3 _ _ _ _ _ (gE σ 1) 15 σ ⟨ha1, ha2⟩ (by rw [ha3]; exact hall) (by omega) (by decide)) (gdS wd_3_70 wd_3_71 wd_1_18 wc_AR_copyOf) hy_AR_copyOf rfl rfl (by decide) (by decide) (by decide) (by decide) (Nat.le_of_ble_eq_true rfl) d_AL_grow1_37 (fun v σ' h => ?_)
    obtain ⟨q, hqL, rfl, rfl⟩ := h
    refine j_dup_x1 (vb := .ref (ad 7)) C rfl rfl d_AL_grow1_40 ?_
    refine p_DL_elementData C rfl (List.mem_cons_of_mem _ wd_1_72) d_AL_grow1_41 ?_
    exact j_aret C Rt (Or.inr ⟨_, rfl⟩) (by decide) (by decide) d_AL_grow1_44 ⟨q, rfl, 15, _, hqL.1, hqL.2, by decide, Or.inr rfl, fun i hi => by rw [ha3, pk_cpy_in (Nat.zero_le _) (by omega)]; congr 1; omega, rfl⟩
set_option maxRecDepth 100000 in
set_option maxHeartbeats 4000000 in
theorem m_AL_grow_DL (l : Launch) (D : va_G) (ad : Nat → Nat) (cs : Nat → ClassId) (eE : Nat × Nat) (n : Nat) (σ : ST) (hs : gI σ 20 = nI n) (hn : (gE σ 1 = eE.1 ∧ n = 0) ∨ (gE σ 1 ∈ pL σ ∧ pK σ (gE σ 1) = 0 ∧ pC σ (gE σ 1) = 10 ∧ n = 10 ∧ allIn σ (gE σ 1) 0 10 3 = true)) : MS l y_AL_grow (Cond.code y_AL_grow b_AL_grow 1 r_AL_grow :: BIG) 4 93 1 15 (wfm ad cs) D (ttf cs) eE [.ref (ad 7)] σ (fun v σ' => ∃ q : Nat, v = some (.ref q) ∧ GrR eE.1 1 n σ σ' q) := by
  refine MS.of (cc := b_AL_grow) (maxL := 1) (ret := r_AL_grow) (by decide) rfl (Nat.le_of_ble_eq_true rfl) (loc := [(0, .ref (ad 7))]) rfl (fun X C Rt => ?_)
  refine j_aload_n C 0 rfl rfl d_AL_grow_0 ?_
  refine j_aload_n C 0 rfl rfl d_AL_grow_1 ?_
  refine g_DL_size C (List.mem_cons_of_mem _ wd_1_73) d_AL_grow_2 ?_
  refine j_iconst C (v := 1) (by decide) d_AL_grow_5 ?_
  refine j_iadd C d_AL_grow_6 ?_
  refine j_topI (x := nI (n + 1)) (by rw [hs, nI_1]) ?_
  refine j_callV (ci := 9) (Cn := "java/util/ArrayList") (T := T_AL) (N := 3) C [.int (nI (n + 1))] [] (m_AL_grow1_DL _ _ _ _ _ n σ hn) (gdV wd_3_58 wd_3_60 wp_14 wd_1_6 wc_AL_grow1) hy_AL_grow1 rfl ⟨7, rfl⟩ rfl rfl (by decide) (by decide) (by decide) (by decide) (Nat.le_of_ble_eq_true rfl) d_AL_grow_7 (fun v σ' h => ?_)
  obtain ⟨q, rfl, hg⟩ := h
  exact j_aret C Rt (Or.inr ⟨_, rfl⟩) (by decide) (by decide) d_AL_grow_10 ⟨q, rfl, hg⟩
/-- behind the growing: the element is put at its place, the size grows -/
theorem al_tail_DL {X : JX} {l : Launch} {D : va_G} {ad : Nat → Nat} {cs : Nat → ClassId} {eE : Nat × Nat} {k m : Nat} {P : Option Value → ST → Prop} {e a n : Nat} {τ : ST} (C : JC X l D (ttf cs) eE b_AL_add3 y_AL_add3.cls 4 (Cond.code y_AL_add3 b_AL_add3 4 r_AL_add3 :: BIG) 5 113 1 15) (Rt : JR X (wfm ad cs) 1 15 P r_AL_add3 y_AL_add3.name) (hk : k ≤ 1) (hm : m ≤ 15) (he : e ∈ pL τ ∧ pK τ e = 3) (ha : a ∈ pL τ ∧ pK τ a = 0) (hn : n < pC τ a) (hc : pC τ a ≤ 15) (hP : P none (sI (sQ τ a n (some e)) 20 (nI (n + 1)))) : J (wfm ad cs) X 4 k m τ 11 [(0, .ref (ad 7)), (1, .ref e), (2, .ref a), (3, .int (nI n))] [] := by
  have hcl : (nI n).toNatClampNeg = n := nI_clamp (by omega)
  refine j_aload_n C 2 rfl rfl d_AL_add3_11 ?_
  refine j_iload_n C 3 rfl rfl d_AL_add3_12 ?_
  refine j_aload_n C 1 rfl rfl d_AL_add3_13 ?_
  refine j_aastO (σ' := sQ τ a n (some e)) (r := ("TollLedger$Deposit", T_DP, 6)) (E := "java/lang/Object") (cA := cs 5) (N := pC τ a) (f := pR τ a) C 5 (by rw [hcl]; exact wrp0 ha) rfl (by decide +kernel) (rdp3 he) rfl (by rw [hcl]; exact fun h => h.elim (nI_pos (by omega)) (by omega)) d_AL_add3_14 ?_
  refine j_aload_n C 0 rfl rfl d_AL_add3_15 ?_
  refine j_iload_n C 3 rfl rfl d_AL_add3_16 ?_
  refine j_iconst C (v := 1) (by decide) d_AL_add3_17 ?_
  refine j_iadd C d_AL_add3_18 ?_
  refine j_topI (x := nI (n + 1)) (nI_1 n).symm ?_
  refine p_DL_size C rfl (List.mem_cons_of_mem _ wd_1_73) d_AL_add3_19 ?_
  exact j_vret C Rt hk hm d_AL_add3_22 hP
set_option maxRecDepth 100000 in
set_option maxHeartbeats 4000000 in
theorem m_AL_add3_DL (l : Launch) (D : va_G) (ad : Nat → Nat) (cs : Nat → ClassId) (eE : Nat × Nat) (e n : Nat) (σ : ST) (he : e ∈ pL σ ∧ pK σ e = 3) (hs : gI σ 20 = nI n) (hn : n ≤ 14) (hL : LOk 1 3 eE σ n) : MS l y_AL_add3 (Cond.code y_AL_add3 b_AL_add3 4 r_AL_add3 :: BIG) 5 113 1 15 (wfm ad cs) D (ttf cs) eE [.ref (ad 7), .ref e, .ref (gE σ 1), .int (nI n)] σ (fun v σ' => v = none ∧ AddR eE.1 1 20 e n σ σ') := by
  refine MS.of (cc := b_AL_add3) (maxL := 4) (ret := r_AL_add3) (by decide) rfl (Nat.le_of_ble_eq_true rfl) (loc := [(0, .ref (ad 7)), (1, .ref e), (2, .ref (gE σ 1)), (3, .int (nI n))]) rfl (fun X C Rt => ?_)
  have grow : ((gE σ 1 = eE.1 ∧ n = 0) ∨ (gE σ 1 ∈ pL σ ∧ pK σ (gE σ 1) = 0 ∧ pC σ (gE σ 1) = 10 ∧ n = 10 ∧ allIn σ (gE σ 1) 0 10 3 = true)) → J (wfm ad cs) X 4 0 0 σ 6 [(0, .ref (ad 7)), (1, .ref e), (2, .ref (gE σ 1)), (3, .int (nI n))] [] := by
    intro hg
    refine j_aload_n C 0 rfl rfl d_AL_add3_6 ?_
    refine j_callV (ci := 9) (Cn := "java/util/ArrayList") (T := T_AL) (N := 3) C [] [] (m_AL_grow_DL _ _ _ _ _ n σ hs hg) (gdV wd_3_54 wd_3_56 wp_13 wd_1_6 wc_AL_grow) hy_AL_grow rfl ⟨7, rfl⟩ rfl rfl (by decide) (by decide) (by decide) (by decide) (Nat.le_of_ble_eq_true rfl) d_AL_add3_7 (fun v τ h => ?_)
    obtain ⟨q, rfl, hg⟩ := h
    have hg' := hg
    obtain ⟨cc, f, hq, hqz, hnc, hcc, hf, rfl⟩ := hg
    refine j_astore_n C rfl (by decide) (loc' := [(2, .ref q), (0, .ref (ad 7)), (1, .ref e), (3, .int (nI n))]) rfl d_AL_add3_10 ?_
    refine j_sub (loc' := [(0, .ref (ad 7)), (1, .ref e), (2, .ref q), (3, .int (nI n))]) [1, 2, 0, 3] rfl ?_
    have heq : e ≠ q := fun h => hq (h ▸ he.1)
    have hC : pC (sE (sN σ q 0 (fun _ => 0) cc f) 1 q) q = cc := (sN_eq (σ := σ) (q := q) (kd := 0) (c := cc) (p := fun _ => 0) (f := f)).2.2.1
    exact al_tail_DL C Rt (by decide) (by decide) ⟨List.mem_append_left _ he.1, (sN_ne (σ := σ) (q := q) (a := e) (kd := 0) (c := cc) (p := fun _ => 0) (f := f) heq).1.trans he.2⟩ ⟨List.mem_append_right _ List.mem_cons_self, (sN_eq (σ := σ) (q := q) (kd := 0) (c := cc) (p := fun _ => 0) (f := f)).1⟩ (by rw [hC]; exact hnc) (by rw [hC]; omega) ⟨rfl, Or.inr ⟨q, _, hg', rfl⟩⟩
  refine j_iload_n C 3 rfl rfl d_AL_add3_0 ?_
  refine j_aload_n C 2 rfl rfl d_AL_add3_1 ?_
  rcases hL with ⟨h1, rfl⟩ | ⟨h1, h2, h3, h4, h5⟩
  · rw [h1]
    refine j_tlen0 C d_AL_add3_2 ?_
    refine j_icmp_ne C d_AL_add3_3 rfl (fun h => absurd (by decide) h) (fun _ => ?_)
    rw [← h1]
    exact grow (Or.inl ⟨h1, rfl⟩)
  · refine j_alen (ty := .object "java/lang/Object") C 5 (rdp0 ⟨h1, h2⟩) rfl d_AL_add3_2 ?_
    refine j_icmp_ne C d_AL_add3_3 rfl (fun h => ?_) (fun h => ?_)
    · have hne : n ≠ pC σ (gE σ 1) := fun z => h (by rw [z])
      exact al_tail_DL C Rt (by decide) (by decide) he ⟨h1, h2⟩ (by omega) (by omega) ⟨rfl, Or.inl ⟨h1, h2, by omega, rfl⟩⟩
    · have hnn : n = pC σ (gE σ 1) := (nI_eq (by omega) (by omega)).mp h
      rcases h4 with h4 | h4
      · rw [h4] at hnn
        subst hnn
        exact grow (Or.inr ⟨h1, h2, h4, rfl, h5⟩)
      · omega
set_option maxRecDepth 100000 in
set_option maxHeartbeats 4000000 in
theorem m_AL_add_DL (l : Launch) (D : va_G) (ad : Nat → Nat) (cs : Nat → ClassId) (eE : Nat × Nat) (e n : Nat) (σ : ST) (he : e ∈ pL σ ∧ pK σ e = 3) (hs : gI σ 20 = nI n) (hn : n ≤ 14) (hL : LOk 1 3 eE σ n) : MS l y_AL_add (Cond.code y_AL_add b_AL_add 2 r_AL_add :: BIG) 6 136 1 15 (wfm ad cs) D (ttf cs) eE [.ref (ad 7), .ref e] σ (fun v σ' => v = some (.int 1) ∧ AddR eE.1 1 20 e n (sI σ 19 (gI σ 19 + 1)) σ') := by
  refine MS.of (cc := b_AL_add) (maxL := 2) (ret := r_AL_add) (by decide) rfl (Nat.le_of_ble_eq_true rfl) (loc := [(0, .ref (ad 7)), (1, .ref e)]) rfl (fun X C Rt => ?_)
  refine j_aload_n C 0 rfl rfl d_AL_add_0 ?_
  refine j_dup C rfl d_AL_add_1 ?_
  refine g_DL_modCount C (List.mem_cons_of_mem _ wd_1_75) d_AL_add_2 ?_
  refine j_iconst C (v := 1) (by decide) d_AL_add_5 ?_
  refine j_iadd C d_AL_add_6 ?_
  refine p_DL_modCount C rfl (List.mem_cons_of_mem _ wd_1_75) d_AL_add_7 ?_
  refine j_aload_n C 0 rfl rfl d_AL_add_10 ?_
  refine j_aload_n C 1 rfl rfl d_AL_add_11 ?_
  refine j_aload_n C 0 rfl rfl d_AL_add_12 ?_
  refine g_DL_elementData C (List.mem_cons_of_mem _ wd_1_72) d_AL_add_13 ?_
  refine j_aload_n C 0 rfl rfl d_AL_add_16 ?_
  refine g_DL_size C (List.mem_cons_of_mem _ wd_1_73) d_AL_add_17 ?_
  refine j_topI (x := nI n) hs.symm ?_
  refine j_callV (ci := 9) (Cn := "java/util/ArrayList") (T := T_AL) (N := 3) C [.ref e, .ref (gE σ 1), .int (nI n)] [] (m_AL_add3_DL _ _ _ _ _ e n (sI σ 19 (gI σ 19 + 1)) he hs hn hL) (gdV wd_3_50 wd_3_52 wp_12 wd_1_6 wc_AL_add3) hy_AL_add3 rfl ⟨7, rfl⟩ rfl rfl (by decide) (by decide) (by decide) (by decide) (Nat.le_of_ble_eq_true rfl) d_AL_add_20 (fun v σ' h => ?_)
  obtain ⟨rfl, hg⟩ := h
  refine j_iconst (v := 1) C (by decide) d_AL_add_23 ?_
  exact j_zret C Rt (Or.inr rfl) (by decide) (by decide) d_AL_add_24 ⟨rfl, hg⟩
