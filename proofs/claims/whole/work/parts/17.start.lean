/-! THE CLAIM OUT OF ONE WALK OF THE LAW'S BODY. Your part is whole_start (and what it stands on); all else here is the same for every law, but numbers. -/
def R_law : String := "TollLedgerLaw"
def lw_P (b : Addr) (xs : List Int32) (args : Array Value) (s : State) : Prop := args = #[.ref b] ∧ s.IntsAt b xs ∧ xs.length ≤ 3072 ∧ (Jvm.Cond.and given_1 narrow_1).before args s = true
def lw_Q (_ : Array Value) (s : State) (o : Outcome) (t : State) : Prop := o = .returned (some (.int 1)) ∧ Framed s o t [] 600000 7302250
def lw_Z (below : List Frame) (a : Array Value) (s : State) : State → Prop := fun t => ∃ o, t.status = .running ∧ Ended t below o ∧ lw_Q a s o t
/-- the law's own end, with 1 on the stack, nothing written that was there before, its room as the claim has it -/
theorem lw_ret {p : Program} {l : Launch} {e : Env} {s : State} {m : MethodId} {below : List Frame} {meth : Method} {c : Code} {b : Nat} (hx : p.tables.exec = Jvm.exec) (hb : c.code = code) (hr : meth.sig.returnType = ret) (hlocks : meth.locks = false) {pc : Nat} {H : Heap} {ls : Array Slot} (hdg : decode code pc = .ok (.ireturn, 1)) : W p l e room_1 s m #[Value.ref b] below meth c H [] 600000 7302250 (lw_Z below #[Value.ref b] s) (F0 m pc ls [.int 1]) := by
  intro T hT X
  obtain ⟨fs, hret, hrun, hended, hW, hframe⟩ := X.leave (v := some (.int 1)) (hlocks := hlocks) (fun h => by rw [hr] at h; cases h)
  have hmeth' : T.vm.method? m = some meth := X.method'
  refine ⟨T.setFrames fs, ?_, .returned (some (.int 1)), hrun, hended, rfl, ⟨_, rfl⟩, hW, hframe⟩
  jvm_step X.here [X.here.top, hx, hb, hdg, hmeth', hr, ret, narrow_b1]
  (try refine ⟨rfl, ?_⟩); (try refine ⟨rfl, ?_⟩)
  first | (intro acts; rw [hret _ acts rfl rfl rfl]) | rw [hret _ _ rfl rfl rfl]
  exact Steps.refl _
/-- what holds at the law's entry: the machine, the code, the tables' words (any of lw_tbl by 'hts w (by decide +kernel)'), the script of L ints xs at the cell b, what the Statement gives of the start (any of its parts by flat_of_before) -/
def lw_At (p : Program) (s : State) (m : MethodId) (meth : Method) (c : Code) (b L : Nat) (xs : Nat → Int32) : Prop :=
  p.tables.exec = Jvm.exec ∧ c.code = code ∧ meth.sig.returnType = ret ∧ c.maxLocals = 4 ∧ s.vm.findClass R_law = some m.cls ∧ (∀ w ∈ lw_tbl, w.before #[Value.ref b] s = true) ∧ va_X b L xs s s.heap ∧ b < s.heap.size ∧ meth.locks = false ∧ (Jvm.Cond.and given_1 narrow_1).before #[Value.ref b] s = true

/-- the state behind the two constructors; a0 .. a5: the accounts' addresses, z: the empty array's -/
def st0 (a0 a1 a2 a3 a4 a5 z : Nat) : ST := (fun j => if j = 0 then (-1) else if j = 3 then 1000000 else if j = 25 then (-1) else if j = 28 then 1000000 else 0, fun _ => 0, fun a => if a = 8 then (upd (fun _ => 0) (0 : Int32).toNatClampNeg 1) else if a = 9 then (upd (fun _ => 0) (0 : Int32).toNatClampNeg 1000000) else if a = 10 then (upd (fun _ => 0) (0 : Int32).toNatClampNeg 1) else fun _ => 0, fun _ => 0, fun a => if a = 0 then va_up (va_up (va_up (va_up (va_up (va_up (fun _ => none) (0 : Int32).toNatClampNeg (some a0)) (1 : Int32).toNatClampNeg (some a1)) (2 : Int32).toNatClampNeg (some a2)) (3 : Int32).toNatClampNeg (some a3)) (4 : Int32).toNatClampNeg (some a4)) (5 : Int32).toNatClampNeg (some a5) else fun _ => none, [a0, a1, a2, a3, a4, a5], fun _ => 1, fun q j => if q = a0 then (if j = 0 then 1 else if j = 1 then 1000000 else if j = 2 then 1 else 0) else (if j = 2 then 1 else 0), fun _ => 0, fun _ _ => none, fun _ => z)
theorem fm_of_map {α β : Type} {f : α → Option β} : ∀ {is : List α} {ws : List β}, is.map f = ws.map some → is.filterMap f = ws
  | [], [], _ => rfl
  | [], _ :: _, h => nomatch h
  | _ :: _, [], h => nomatch h
  | i :: is, w :: ws, h => by
    have h1 : f i = some w := (List.cons.inj h).1
    rw [List.filterMap_cons_some h1, fm_of_map (List.cons.inj h).2]
section LST
variable {X : JX} {l0 : Launch} {D0 : va_G} {tt : List (ClassId × FieldType)} {eE : Nat × Nat} {cc : ByteArray} {own : String} {nL : Nat} {Ts : List Cond} {fr lo ce sl k n pc : Nat} {loc : List (Nat × Value)} {st : List Value} {ad : Nat → Nat} {cs : Nat → ClassId}
theorem j_world {w : va_W} {σ : ST} (is : List Nat) (hn : va_nd is = true) (h : ∀ A : Nat → Prop, va_D A w → is.map (fun i => w[i]?) = (wfm ad cs σ).map some) (kk : J (wfm ad cs) X nL k n σ pc loc st) : J (id : va_W → va_W) X nL k n w pc loc st := by
  obtain ⟨p, l, e, R, s, m, args, below, meth, c, Q, D, A, tys⟩ := X
  intro H locs ls hl hP hD hS
  have h1 := h A hD
  exact kk H locs ls hl (va_P.sub hP is (fm_of_map h1)) (va_D.sub hD is hn h1) hS
end LST
theorem law_arr {s : State} {args : Array Value} {ty : FieldType} (hty : ty = .int ∨ ty = .boolean ∨ ty = .long) (h : (Cond.arrayClass ty).before args s = true) : ∃ cA : ClassId, ArrOfT s cA ty ∧ va_RA s cA ty := by
  obtain ⟨c, k, comp, h1, h2, h3⟩ := Cond.arrayClass_spec h
  refine ⟨c, fun n z => ⟨fun k h => (by cases h), k, h2, comp, h3⟩, ?_⟩
  rcases hty with rfl | rfl | rfl <;> exact h1
theorem law_arrO {s : State} {args : Array Value} {C : String} (h : (Cond.arrayOver (.object C)).before args s = true) : ∃ cA : ClassId, ArrOfT s cA (.object C) ∧ va_RA s cA (.object C) := by
  obtain ⟨comp, c, k, h1, h2, h3, h4, h5⟩ := Cond.arrayOver_spec h
  exact ⟨c, fun n z => ⟨fun k h => (by cases h), k, h3, comp, h4⟩, k, comp, h3, h4, h1, h5⟩
set_option maxRecDepth 100000 in
set_option maxHeartbeats 4000000 in
theorem law_K {s : State} {args : Array Value} (hts : ∀ w ∈ lw_tbl, w.before args s = true) : ∃ (D : va_G) (cs : Nat → ClassId), va_K D vwCl (ttf cs) s := by
  have htb : ∀ w ∈ BIG, w.before args s = true := fun w h => hts w (bgT h)
  obtain ⟨c0, i0, h0⟩ := u_known (C := "TollLedger") (T := T_TL) (N := 10) htb in_TL (hts _ (inT1 21 rfl))
  obtain ⟨c1, i1, h1⟩ := u_known (C := "TollLedger$State") (T := T_ST) (N := 6) htb in_ST (hts _ (inT1 29 rfl))
  obtain ⟨c2, i2, h2⟩ := u_known (C := "TollLedger$Lines") (T := T_LN) (N := 3) htb in_LN (hts _ (inT1 37 rfl))
  obtain ⟨c3, i3, h3⟩ := u_known (C := "TollLedger$Book") (T := T_BK) (N := 2) htb in_BK (hts _ (inT1 145 rfl))
  obtain ⟨c4, i4, h4⟩ := u_known (C := "TollLedger$Taking") (T := T_TK) (N := 13) htb in_TK (hts _ (inT1 139 rfl))
  obtain ⟨c5, i5, h5⟩ := u_known (C := "TollLedger$Leaves") (T := T_LV) (N := 1) htb in_LV (hts _ (inT1 208 rfl))
  obtain ⟨c6, i6, h6⟩ := u_known (C := "TollLedger$Account") (T := T_AC) (N := 4) htb in_AC (hts _ (inT1 84 rfl))
  obtain ⟨c7, i7, h7⟩ := u_known (C := "TollLedger$Offer") (T := T_OF) (N := 6) htb in_OF (hts _ (inT3 6 rfl))
  obtain ⟨c8, i8, h8⟩ := u_known (C := "TollLedger$Deposit") (T := T_DP) (N := 6) htb in_DP (hts _ (inT3 117 rfl))
  obtain ⟨c9, i9, h9⟩ := u_known (C := "java/util/ArrayList") (T := T_AL) (N := 3) htb in_AL (hts _ (inT1 59 rfl))
  obtain ⟨c10, i10, h10⟩ := u_known (C := "TollLedgerModel") (T := T_MD) (N := 39) htb in_MD (hts _ (inT4 13 rfl))
  obtain ⟨k0, f0, g0⟩ := law_arr (ty := .int) (by simp) (hts _ (inT1 56 rfl))
  obtain ⟨k1, f1, g1⟩ := law_arr (ty := .boolean) (by simp) (hts _ (inT1 57 rfl))
  obtain ⟨k2, f2, g2⟩ := law_arr (ty := .long) (by simp) (hts _ (inT4 137 rfl))
  obtain ⟨k3, f3, g3⟩ := law_arrO (C := "TollLedger$Account") (hts _ (inT1 35 rfl))
  obtain ⟨k4, f4, g4⟩ := law_arrO (C := "TollLedger$Offer") (hts _ (inT1 151 rfl))
  obtain ⟨k5, f5, g5⟩ := law_arrO (C := "java/lang/Object") (hts _ (inT3 92 rfl))
  refine ⟨(fun k => [c0, c1, c2, c3, c4, c5, c6, c7, c8, c9, c10].getD k 0, fun k => [i0, i1, i2, i3, i4, i5, i6, i7, i8, i9, i10].getD k id), fun k => [k0, k1, k2, k3, k4, k5].getD k 0, fun c q hq => ?_, fun k q hq => ?_⟩
  · match c, hq with
    | 0, hq => cases hq; exact h0
    | 1, hq => cases hq; exact h1
    | 2, hq => cases hq; exact h2
    | 3, hq => cases hq; exact h3
    | 4, hq => cases hq; exact h4
    | 5, hq => cases hq; exact h5
    | 6, hq => cases hq; exact h6
    | 7, hq => cases hq; exact h7
    | 8, hq => cases hq; exact h8
    | 9, hq => cases hq; exact h9
    | 10, hq => cases hq; exact h10
    | c + 11, hq => exact absurd hq (by simp [vwCl])
  · match k, hq with
    | 0, hq => cases hq; exact ⟨f0, g0⟩
    | 1, hq => cases hq; exact ⟨f1, g1⟩
    | 2, hq => cases hq; exact ⟨f2, g2⟩
    | 3, hq => cases hq; exact ⟨f3, g3⟩
    | 4, hq => cases hq; exact ⟨f4, g4⟩
    | 5, hq => cases hq; exact ⟨f5, g5⟩
    | k + 6, hq => exact absurd hq (by simp [ttf])
set_option maxRecDepth 100000 in
set_option maxHeartbeats 4000000 in
theorem law_SP {s : State} {args : Array Value} (hts : ∀ w ∈ lw_tbl, w.before args s = true) : SPh s := by
  refine ⟨fun q hq => ?_, fun q hq => ?_, va_Dc.of (hts _ (inT5 103 rfl)), va_AO.of (hts _ (inT1 35 rfl)), va_AO.of (hts _ (inT1 151 rfl)), va_AO.of (hts _ (inT3 92 rfl))⟩
  · simp only [SPM, List.mem_cons, List.not_mem_nil, or_false] at hq
    rcases hq with rfl | rfl | rfl | rfl | rfl | rfl | rfl | rfl
    · exact va_Nw.of rfl (hts _ (inT1 38 rfl))
    · exact va_Nw.of rfl (hts _ (inT1 85 rfl))
    · exact va_Nw.of rfl (hts _ (inT1 146 rfl))
    · exact va_Nw.of rfl (hts _ (inT1 209 rfl))
    · exact va_Nw.of rfl (hts _ (inT2 77 rfl))
    · exact va_Nw.of rfl (hts _ (inT2 81 rfl))
    · exact va_Nw.of rfl (hts _ (inT3 7 rfl))
    · exact va_Nw.of rfl (hts _ (inT3 118 rfl))
  · simp only [SPC, List.mem_cons, List.not_mem_nil, or_false] at hq
    rcases hq with rfl | rfl | rfl | rfl | rfl | rfl | rfl | rfl | rfl | rfl | rfl | rfl
    · exact va_Nw.of rfl (hts _ (inT5 99 rfl))
    · exact va_Nw.of rfl (hts _ (inT5 100 rfl))
    · exact va_Nw.of rfl (hts _ (inT5 104 rfl))
    · exact va_Nw.of rfl (hts _ (inT5 105 rfl))
    · exact va_Nw.of rfl (hts _ (inT5 106 rfl))
    · exact va_Nw.of rfl (hts _ (inT5 107 rfl))
    · exact va_Nw.of rfl (hts _ (inT5 108 rfl))
    · exact va_Nw.of rfl (hts _ (inT5 109 rfl))
    · exact va_Nw.of rfl (hts _ (inT5 110 rfl))
    · exact va_Nw.of rfl (hts _ (inT5 111 rfl))
    · exact va_Nw.of rfl (hts _ (inT5 112 rfl))
    · exact va_Nw.of rfl (hts _ (inT5 113 rfl))
theorem law_SZ {s : State} {args : Array Value} (hts : ∀ w ∈ lw_tbl, w.before args s = true) (hgv : (Jvm.Cond.and given_1 narrow_1).before args s = true) : ∃ eE : Nat × Nat, SZ eE (fun q => s.heap.size ≤ q) s s.heap := by
  have hs := flat_of_before _ hgv
  have h1 : (Cond.arrayOf (Term.static "java/util/ArrayList" "DEFAULTCAPACITY_EMPTY_ELEMENTDATA" "[Ljava/lang/Object;") (.object "java/lang/Object")).before args s = true := hs _ (by decide +kernel)
  have h2 : (Cond.eq (.length (Term.static "java/util/ArrayList" "DEFAULTCAPACITY_EMPTY_ELEMENTDATA" "[Ljava/lang/Object;")) (.int 0)).before args s = true := hs _ (by decide +kernel)
  have h3 : (Cond.isRef (.mirror "[Ljava/lang/Object;")).before args s = true := hs _ (by decide +kernel)
  obtain ⟨mi, hm⟩ := va_Mi.of h3
  obtain ⟨t, ht, hT⟩ := va_Tof (N := 0) (f := fun _ => .null) (A := fun q => s.heap.size ≤ q) (by decide) h1 (va_eqt h2) (fun j hj => absurd hj (Nat.not_lt_zero j)) (fun a ha => Nat.not_le.mpr ha)
  exact ⟨(t, mi), va_Zref (hts _ (inT1 71 rfl)) (hts _ (bgT wd_1_6)) ht (fun a ha => Nat.not_le.mpr ha), hT, hm⟩
set_option maxRecDepth 100000 in
set_option maxHeartbeats 8000000 in
theorem law_open {X : JX} {l : Launch} {D : va_G} {cs : Nat → ClassId} {eE : Nat × Nat} {cd : Cond} {b : Nat} (C : JC X l D (ttf cs) eE b_LW_law "TollLedgerLaw" 4 (cd :: BIG) 11 428 600000 7302250) (kk : ∀ (ad : Nat → Nat) (a0 a1 a2 a3 a4 a5 : Nat), [a0, a1, a2, a3, a4, a5].Nodup → J (wfm ad cs) X 4 100 1000 (st0 a0 a1 a2 a3 a4 a5 eE.1) 18 [(0, .ref b), (1, .ref (ad 0)), (2, .ref (ad 18)), (3, .int (nI 0))] []) : J (id : va_W → va_W) X 4 0 0 [] 0 [(0, .ref b)] [] := by
  refine j_new (ty := ty_TL) (T := T_TL) (Cn := "TollLedger") (N := 10) (ci := 0) (fs := [.null, .null, .null, .int 0, .int 0, .int 0, .int 0, .int 0, .int 0, .int 0]) C (fun w h => List.mem_cons_of_mem _ (in_TL w h)) tk_TL (List.mem_cons_of_mem _ wd_1_20) (List.mem_cons_of_mem _ wd_1_21) (List.mem_cons_of_mem _ wd_1_1) rfl (by decide +kernel) (by decide) (by decide) d_LW_law_0 (fun t0 ht0 => ⟨[] ++ [(t0, .inr (0, [.null, .null, .null, .int 0, .int 0, .int 0, .int 0, .int 0, .int 0, .int 0]))], rfl, ?_⟩)
  refine j_dup C rfl d_LW_law_3 ?_
  refine j_callI C [] [.ref t0] (m_TL_init _ _ cs eE [] t0) (gdN wc_TL_init) (List.mem_cons_of_mem _ wd_1_22) (List.mem_cons_of_mem _ wd_1_1) (List.mem_cons_of_mem _ wd_1_23) rfl hy_TL_init.2 rfl rfl (by decide) (by decide) (by decide) (by decide) (Nat.le_of_ble_eq_true rfl) d_LW_law_4 (fun v σ' h => ?_)
  obtain ⟨rfl, tq5, tr9_0, tr9_1, tr9_2, tr9_3, tr9_4, tr9_5, tr9_6, tr9_7, tr9_8, tr9_9, tr9_10, tr9_11, tr9_12, tq16, tr24_0, tr24_1, tr24_2, tr24_3, tr24_4, tr24_5, tq31, tr35_0, rfl⟩ := h
  refine j_astore_n C rfl (by decide) (loc' := [(1, .ref t0), (0, .ref b)]) rfl d_LW_law_7 ?_
  refine j_new (ty := ty_MD) (T := T_MD) (Cn := "TollLedgerModel") (N := 39) (ci := 10) (fs := [.null, .null, .null, .null, .null, .null, .null, .int 0, .int 0, .null, .null, .null, .null, .null, .null, .int 0, .int 0, .null, .null, .null, .null, .null, .null, .int 0, .int 0, .int 0, .int 0, .int 0, .int 0, .int 0, .null, .null, .null, .null, .null, .int 0, .long 0, .long 0, .null]) C (fun w h => List.mem_cons_of_mem _ (in_MD w h)) tk_MD (List.mem_cons_of_mem _ wd_4_12) (List.mem_cons_of_mem _ wd_4_13) (List.mem_cons_of_mem _ wd_1_11) rfl (by decide +kernel) (by decide) (by decide) d_LW_law_8 (fun m0 hm0 => ⟨[(t0, .inr (0, [.ref tq5, .ref tq16, .ref tq31, .int (-1), .int 0, .int 0, .int 1000000, .int 0, .int 0, .int 0])), (tq5, .inr (1, [.ref tr9_0, .ref tr9_1, .ref tr9_5, .ref tr9_6, .int 0, .int 0])), (tr9_0, .inl (cs 3, 6, .inr (.inr (.inr (.inr (va_up (va_up (va_up (va_up (va_up (va_up (fun _ => none) (0 : Int32).toNatClampNeg (some tr9_7)) (1 : Int32).toNatClampNeg (some tr9_8)) (2 : Int32).toNatClampNeg (some tr9_9)) (3 : Int32).toNatClampNeg (some tr9_10)) (4 : Int32).toNatClampNeg (some tr9_11)) (5 : Int32).toNatClampNeg (some tr9_12))))))), (tr9_1, .inr (2, [.ref tr9_2, .ref tr9_3, .ref tr9_4])), (tr9_2, .inl (cs 0, 72, .inl (fun _ => 0))), (tr9_3, .inl (cs 0, 72, .inl (fun _ => 0))), (tr9_4, .inl (cs 1, 72, .inl (fun _ => 0))), (tr9_5, .inr (9, [.int 0, .ref eE.1, .int 0])), (tr9_6, .inr (9, [.int 0, .ref eE.1, .int 0])), (tr9_7, .inr (6, [.int 1, .int 1000000, .int 1, .int 0])), (tr9_8, .inr (6, [.int 0, .int 0, .int 1, .int 0])), (tr9_9, .inr (6, [.int 0, .int 0, .int 1, .int 0])), (tr9_10, .inr (6, [.int 0, .int 0, .int 1, .int 0])), (tr9_11, .inr (6, [.int 0, .int 0, .int 1, .int 0])), (tr9_12, .inr (6, [.int 0, .int 0, .int 1, .int 0])), (tq16, .inr (4, [.ref tq5, .ref tr24_0, .ref tr24_2, .ref tr24_3, .ref tr24_4, .ref tr24_5, .int 0, .int 0, .int 0, .int 0, .int 0, .int 0, .int 0])), (tr24_0, .inr (3, [.ref tr24_1, .int 0])), (tr24_1, .inl (cs 4, 12, .inr (.inr (.inr (.inr (fun _ => none)))))), (tr24_2, .inl (cs 0, 12, .inl (fun _ => 0))), (tr24_3, .inl (cs 0, 12, .inl (fun _ => 0))), (tr24_4, .inl (cs 0, 6, .inl (fun _ => 0))), (tr24_5, .inl (cs 0, 6, .inl (fun _ => 0))), (tq31, .inr (5, [.ref tr35_0])), (tr35_0, .inl (cs 0, 64, .inl (fun _ => 0)))] ++ [(m0, .inr (10, [.null, .null, .null, .null, .null, .null, .null, .int 0, .int 0, .null, .null, .null, .null, .null, .null, .int 0, .int 0, .null, .null, .null, .null, .null, .null, .int 0, .int 0, .int 0, .int 0, .int 0, .int 0, .int 0, .null, .null, .null, .null, .null, .int 0, .long 0, .long 0, .null]))], rfl, ?_⟩)
  refine j_dup C rfl d_LW_law_11 ?_
  refine j_callI C [] [.ref m0] (m_MD_init _ _ cs eE [(t0, .inr (0, [.ref tq5, .ref tq16, .ref tq31, .int (-1), .int 0, .int 0, .int 1000000, .int 0, .int 0, .int 0])), (tq5, .inr (1, [.ref tr9_0, .ref tr9_1, .ref tr9_5, .ref tr9_6, .int 0, .int 0])), (tr9_0, .inl (cs 3, 6, .inr (.inr (.inr (.inr (va_up (va_up (va_up (va_up (va_up (va_up (fun _ => none) (0 : Int32).toNatClampNeg (some tr9_7)) (1 : Int32).toNatClampNeg (some tr9_8)) (2 : Int32).toNatClampNeg (some tr9_9)) (3 : Int32).toNatClampNeg (some tr9_10)) (4 : Int32).toNatClampNeg (some tr9_11)) (5 : Int32).toNatClampNeg (some tr9_12))))))), (tr9_1, .inr (2, [.ref tr9_2, .ref tr9_3, .ref tr9_4])), (tr9_2, .inl (cs 0, 72, .inl (fun _ => 0))), (tr9_3, .inl (cs 0, 72, .inl (fun _ => 0))), (tr9_4, .inl (cs 1, 72, .inl (fun _ => 0))), (tr9_5, .inr (9, [.int 0, .ref eE.1, .int 0])), (tr9_6, .inr (9, [.int 0, .ref eE.1, .int 0])), (tr9_7, .inr (6, [.int 1, .int 1000000, .int 1, .int 0])), (tr9_8, .inr (6, [.int 0, .int 0, .int 1, .int 0])), (tr9_9, .inr (6, [.int 0, .int 0, .int 1, .int 0])), (tr9_10, .inr (6, [.int 0, .int 0, .int 1, .int 0])), (tr9_11, .inr (6, [.int 0, .int 0, .int 1, .int 0])), (tr9_12, .inr (6, [.int 0, .int 0, .int 1, .int 0])), (tq16, .inr (4, [.ref tq5, .ref tr24_0, .ref tr24_2, .ref tr24_3, .ref tr24_4, .ref tr24_5, .int 0, .int 0, .int 0, .int 0, .int 0, .int 0, .int 0])), (tr24_0, .inr (3, [.ref tr24_1, .int 0])), (tr24_1, .inl (cs 4, 12, .inr (.inr (.inr (.inr (fun _ => none)))))), (tr24_2, .inl (cs 0, 12, .inl (fun _ => 0))), (tr24_3, .inl (cs 0, 12, .inl (fun _ => 0))), (tr24_4, .inl (cs 0, 6, .inl (fun _ => 0))), (tr24_5, .inl (cs 0, 6, .inl (fun _ => 0))), (tq31, .inr (5, [.ref tr35_0])), (tr35_0, .inl (cs 0, 64, .inl (fun _ => 0)))] m0) (gdN wc_MD_init) (List.mem_cons_of_mem _ wd_4_14) (List.mem_cons_of_mem _ wd_1_11) (List.mem_cons_of_mem _ wd_4_15) rfl hy_MD_init.2 rfl rfl (by decide) (by decide) (by decide) (by decide) (Nat.le_of_ble_eq_true rfl) d_LW_law_12 (fun v σ' h => ?_)
  obtain ⟨rfl, mq7, mq15, mq23, mq31, mq39, mq47, mq55, mq63, mq71, mq79, mq87, mq95, mq103, mq111, mq119, mq127, mq135, mq143, mq151, mq170, mq178, mq186, mq194, mq202, mq209, rfl⟩ := h
  refine j_astore_n C rfl (by decide) (loc' := [(2, .ref m0), (1, .ref t0), (0, .ref b)]) rfl d_LW_law_15 ?_
  refine j_iconst C (v := 0) (by decide) d_LW_law_16 ?_
  refine j_istore_n C rfl (by decide) (loc' := [(3, .int 0), (2, .ref m0), (1, .ref t0), (0, .ref b)]) rfl d_LW_law_17 ?_
  refine j_sub (loc' := [(0, .ref b), (1, .ref t0), (2, .ref m0), (3, .int 0)]) [3, 2, 1, 0] rfl ?_
  refine j_widen (k' := 100) (n' := 1000) (by decide) (by decide) ?_
  by_cases hnd : [tr9_7, tr9_8, tr9_9, tr9_10, tr9_11, tr9_12].Nodup
  · refine j_world (ad := (fun i => [t0, tq5, tr9_1, tr24_0, tq16, tq31, tr9_5, tr9_6, tr9_0, tr9_2, tr9_3, tr9_4, tr24_1, tr24_2, tr24_3, tr24_4, tr24_5, tr35_0, m0, mq7, mq15, mq23, mq31, mq39, mq47, mq55, mq63, mq71, mq79, mq87, mq95, mq103, mq111, mq119, mq127, mq135, mq143, mq151, mq170, mq178, mq186, mq194, mq202, mq209].getD i 0)) (cs := cs) (σ := st0 tr9_7 tr9_8 tr9_9 tr9_10 tr9_11 tr9_12 eE.1) [0, 1, 3, 16, 15, 22, 7, 8, 2, 4, 5, 6, 17, 18, 19, 20, 21, 23, 24, 25, 26, 27, 28, 29, 30, 31, 32, 33, 34, 35, 36, 37, 38, 39, 40, 41, 42, 43, 44, 45, 46, 47, 48, 49, 9, 10, 11, 12, 13, 14] (by decide) (fun A hD => ?_) (kk (fun i => [t0, tq5, tr9_1, tr24_0, tq16, tq31, tr9_5, tr9_6, tr9_0, tr9_2, tr9_3, tr9_4, tr24_1, tr24_2, tr24_3, tr24_4, tr24_5, tr35_0, m0, mq7, mq15, mq23, mq31, mq39, mq47, mq55, mq63, mq71, mq79, mq87, mq95, mq103, mq111, mq119, mq127, mq135, mq143, mq151, mq170, mq178, mq186, mq194, mq202, mq209].getD i 0) tr9_7 tr9_8 tr9_9 tr9_10 tr9_11 tr9_12 hnd)
    have hx : ∀ a : Nat, a ∈ [tr9_8, tr9_9, tr9_10, tr9_11, tr9_12] → a ≠ tr9_7 := fun a ha h => (List.nodup_cons.mp hnd).1 (h ▸ ha)
    have e : wfm (fun i => [t0, tq5, tr9_1, tr24_0, tq16, tq31, tr9_5, tr9_6, tr9_0, tr9_2, tr9_3, tr9_4, tr24_1, tr24_2, tr24_3, tr24_4, tr24_5, tr35_0, m0, mq7, mq15, mq23, mq31, mq39, mq47, mq55, mq63, mq71, mq79, mq87, mq95, mq103, mq111, mq119, mq127, mq135, mq143, mq151, mq170, mq178, mq186, mq194, mq202, mq209].getD i 0) cs (st0 tr9_7 tr9_8 tr9_9 tr9_10 tr9_11 tr9_12 eE.1) = wfx (fun i => [t0, tq5, tr9_1, tr24_0, tq16, tq31, tr9_5, tr9_6, tr9_0, tr9_2, tr9_3, tr9_4, tr24_1, tr24_2, tr24_3, tr24_4, tr24_5, tr35_0, m0, mq7, mq15, mq23, mq31, mq39, mq47, mq55, mq63, mq71, mq79, mq87, mq95, mq103, mq111, mq119, mq127, mq135, mq143, mq151, mq170, mq178, mq186, mq194, mq202, mq209].getD i 0) cs (st0 tr9_7 tr9_8 tr9_9 tr9_10 tr9_11 tr9_12 eE.1) ++ [(tr9_7, .inr (6, [.int 1, .int 1000000, .int 1, .int 0])), (tr9_8, .inr (6, [.int 0, .int 0, .int 1, .int 0])), (tr9_9, .inr (6, [.int 0, .int 0, .int 1, .int 0])), (tr9_10, .inr (6, [.int 0, .int 0, .int 1, .int 0])), (tr9_11, .inr (6, [.int 0, .int 0, .int 1, .int 0])), (tr9_12, .inr (6, [.int 0, .int 0, .int 1, .int 0]))] := by
      show wfx _ _ _ ++ va_pl [tr9_7, tr9_8, tr9_9, tr9_10, tr9_11, tr9_12] (pfn cs (st0 tr9_7 tr9_8 tr9_9 tr9_10 tr9_11 tr9_12 eE.1)) = _
      congr 1
      have p0 : pfn cs (st0 tr9_7 tr9_8 tr9_9 tr9_10 tr9_11 tr9_12 eE.1) tr9_7 = .inr (6, [.int 1, .int 1000000, .int 1, .int 0]) := by
        unfold pfn
        rw [if_pos (show pK (st0 tr9_7 tr9_8 tr9_9 tr9_10 tr9_11 tr9_12 eE.1) tr9_7 = 1 from rfl)]
        simp [pe1, pP, st0]
      have p1 : ∀ a : Nat, a ∈ [tr9_8, tr9_9, tr9_10, tr9_11, tr9_12] → pfn cs (st0 tr9_7 tr9_8 tr9_9 tr9_10 tr9_11 tr9_12 eE.1) a = .inr (6, [.int 0, .int 0, .int 1, .int 0]) := by
        intro a ha
        have h1 := hx a ha
        unfold pfn
        rw [if_pos (show pK (st0 tr9_7 tr9_8 tr9_9 tr9_10 tr9_11 tr9_12 eE.1) a = 1 from rfl)]
        simp [pe1, pP, st0, h1]
      simp only [va_pl, List.map_cons, List.map_nil, p0, p1 tr9_8 (by simp), p1 tr9_9 (by simp), p1 tr9_10 (by simp), p1 tr9_11 (by simp), p1 tr9_12 (by simp)]
    rw [e]
    rfl
  · -- the addresses are apart
    obtain ⟨p, l', e', R, s, m, args, below, meth, c, Q, D', A, tys⟩ := X
    intro H locs ls hl hP hD hS
    refine absurd ?_ hnd
    have hj : va_J [tr9_7, tr9_8, tr9_9, tr9_10, tr9_11, tr9_12] := va_J.of (hD.sub (ws' := [(tr9_7, .inr (6, [.int 1, .int 1000000, .int 1, .int 0])), (tr9_8, .inr (6, [.int 0, .int 0, .int 1, .int 0])), (tr9_9, .inr (6, [.int 0, .int 0, .int 1, .int 0])), (tr9_10, .inr (6, [.int 0, .int 0, .int 1, .int 0])), (tr9_11, .inr (6, [.int 0, .int 0, .int 1, .int 0])), (tr9_12, .inr (6, [.int 0, .int 0, .int 1, .int 0]))]) [9, 10, 11, 12, 13, 14] (by decide) rfl)
    have n01 : tr9_7 ≠ tr9_8 := hj.ne (i := 0) (j := 1) rfl rfl (by decide)
    have n02 : tr9_7 ≠ tr9_9 := hj.ne (i := 0) (j := 2) rfl rfl (by decide)
    have n03 : tr9_7 ≠ tr9_10 := hj.ne (i := 0) (j := 3) rfl rfl (by decide)
    have n04 : tr9_7 ≠ tr9_11 := hj.ne (i := 0) (j := 4) rfl rfl (by decide)
    have n05 : tr9_7 ≠ tr9_12 := hj.ne (i := 0) (j := 5) rfl rfl (by decide)
    have n12 : tr9_8 ≠ tr9_9 := hj.ne (i := 1) (j := 2) rfl rfl (by decide)
    have n13 : tr9_8 ≠ tr9_10 := hj.ne (i := 1) (j := 3) rfl rfl (by decide)
    have n14 : tr9_8 ≠ tr9_11 := hj.ne (i := 1) (j := 4) rfl rfl (by decide)
    have n15 : tr9_8 ≠ tr9_12 := hj.ne (i := 1) (j := 5) rfl rfl (by decide)
    have n23 : tr9_9 ≠ tr9_10 := hj.ne (i := 2) (j := 3) rfl rfl (by decide)
    have n24 : tr9_9 ≠ tr9_11 := hj.ne (i := 2) (j := 4) rfl rfl (by decide)
    have n25 : tr9_9 ≠ tr9_12 := hj.ne (i := 2) (j := 5) rfl rfl (by decide)
    have n34 : tr9_10 ≠ tr9_11 := hj.ne (i := 3) (j := 4) rfl rfl (by decide)
    have n35 : tr9_10 ≠ tr9_12 := hj.ne (i := 3) (j := 5) rfl rfl (by decide)
    have n45 : tr9_11 ≠ tr9_12 := hj.ne (i := 4) (j := 5) rfl rfl (by decide)
    simp [List.nodup_cons, n01, n02, n03, n04, n05, n12, n13, n14, n15, n23, n24, n25, n34, n35, n45]
