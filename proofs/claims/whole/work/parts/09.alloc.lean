section JNEW
variable {S : Type} {wf : S → va_W} {X : JX} {l0 : Launch} {D0 : va_G} {tt : List (ClassId × FieldType)} {eE : Nat × Nat} {cc : ByteArray} {own : String} {nL : Nat} {Ts : List Cond} {fr lo ce sl k n : Nat} {σ σ' : S} {pc : Nat} {loc : List (Nat × Value)} {rest : List Value}
/-- an address that the world doesn't hold -/
def Fr (w : va_W) (q : Nat) : Prop := ∀ (i : Nat) (x : Nat × va_E), w[i]? = some x → x.1 ≠ q
theorem Fr.of {A : Nat → Prop} {w : va_W} {q : Nat} {e : va_E} (h : va_D A (w ++ [(q, e)])) : Fr w q := by
  intro i x hi hx
  have hl := (List.getElem?_eq_some_iff.mp hi).1
  have h1 : (w ++ [(q, e)])[i]? = some x := by rw [List.getElem?_append_left hl]; exact hi
  have h2 : (w ++ [(q, e)])[w.length]? = some (q, e) := by rw [List.getElem?_append_right (Nat.le_refl _), Nat.sub_self]; rfl
  have := h.1 _ _ _ _ h1 h2 hx
  omega
theorem Fr.lastA {A : Nat → Prop} {w : va_W} {q : Nat} {e : va_E} (h : va_D A (w ++ [(q, e)])) : A q := h.2 w.length (q, e) (by rw [List.getElem?_append_right (Nat.le_refl _), Nat.sub_self]; rfl)
theorem j_new (C : JC X l0 D0 tt eE cc own nL Ts fr lo ce sl) {ci ix N : Nat} {Cn : String} {T : u_T} {ty : Nat → FieldType} {fs : List Value} (hin : ∀ w ∈ u_ws Cn T N, w ∈ Ts) (hty : ∀ k, k < N → parseFieldDescriptor (T k).2.2.1 = some (ty k)) (w1 : Cond.classLink own ix Cn ∈ Ts) (w2 : Cond.instantiable Cn N ∈ Ts) (w3 : Cond.initialized Cn ∈ Ts) (hc : vwCl[ci]? = some (Cn, T, N)) (hfs : ∀ j, j < N → defaultValue (ty j) = vp_V fs j) (h1 : k + 1 ≤ ce) (h2 : n + N ≤ sl) (hd : decode cc pc = .ok (.new ix, 3)) (kk : ∀ q : Nat, Fr (wf σ) q → ∃ σ' : S, wf σ' = wf σ ++ [(q, .inr (ci, fs))] ∧ J wf X nL (k + 1) (n + N) σ' (pc + 3) loc (.ref q :: rest)) : J wf X nL k n σ pc loc rest := by
  obtain ⟨p, l, e, R, s, m, args, below, meth, c, Q, D, A, tys⟩ := X
  obtain ⟨rfl, rfl, rfl, hx, hb, hml, ho, hts, hK, hA, e1, e2, e3, e4, hsp, hsz⟩ := C
  intro H locs ls hl hP hD hS
  refine va_new hx hb hts hin ty hty ho (hts _ w1) (hts _ w2) (hts _ w3) hK hP hD hS hA hc hfs (by rw [e3]; exact h1) (by rw [e4]; exact h2) hd (fun q H1 hP1 hD1 hS1 => ?_)
  obtain ⟨σ', hw, hJ⟩ := kk q (Fr.of hD1)
  exact hJ H1 locs ls hl (by rw [hw]; exact hP1) (by rw [hw]; exact hD1) hS1
theorem j_newq (C : JC X l0 D0 tt eE cc own nL Ts fr lo ce sl) {ix : Nat} {E : String} {c0 : ClassId} {z : Int32} {N : Nat} (t0 : Nat) (w1 : Cond.classLink own ix E ∈ Ts) (hover : ∀ U : State, SPh U → va_AO E U) (ht : tt[t0]? = some (c0, .object E)) (hz : ¬ z < 0) (hN : z.toNatClampNeg = N) (hb4 : N * 4 ≤ 536870912) (h1 : k + 1 ≤ ce) (h2 : n + N ≤ sl) (hd : decode cc pc = .ok (.anewarray ix, 3)) (kk : ∀ q : Nat, Fr (wf σ) q → ∃ σ' : S, wf σ' = wf σ ++ [(q, .inl (c0, N, .inr (.inr (.inr (.inr (fun _ => none))))))] ∧ J wf X nL (k + 1) (n + N) σ' (pc + 3) loc (.ref q :: rest)) : J wf X nL k n σ pc loc (.int z :: rest) := by
  obtain ⟨p, l, e, R, s, m, args, below, meth, c, Q, D, A, tys⟩ := X
  obtain ⟨rfl, rfl, rfl, hx, hb, hml, ho, hts, hK, hA, e1, e2, e3, e4, hsp, hsz⟩ := C
  intro H locs ls hl hP hD hS
  refine va_newq hx hb ho (hts _ w1) (hover _ hsp) hK hP hD hS hA hz hN hb4 (by rw [e3]; exact h1) (by rw [e4]; exact h2) hd (fun q cA H1 hK1 hP1 hD1 hS1 => ?_)
  have hc : cA = c0 := by
    have r1 := (hK1.2 tys.length (cA, .object E) (by rw [List.getElem?_append_right (Nat.le_refl _), Nat.sub_self]; rfl)).2
    have r0 := (hK.2 t0 _ ht).2
    obtain ⟨_, _, _, _, _, f1⟩ := r1
    obtain ⟨_, _, _, _, _, f0⟩ := r0
    exact Option.some.inj (f1.symm.trans f0)
  subst hc
  obtain ⟨σ', hw, hJ⟩ := kk q (Fr.of hD1)
  exact hJ H1 locs ls hl (by rw [hw]; exact hP1) (by rw [hw]; exact hD1) hS1
theorem j_newq0 (C : JC X l0 D0 tt eE cc own nL Ts fr lo ce sl) {ix : Nat} {E : String} {c0 : ClassId} {z : Int32} {N : Nat} (t0 : Nat) (w1 : Cond.classLink own ix E ∈ Ts) (hover : ∀ U : State, SPh U → va_AO E U) (ht : tt[t0]? = some (c0, .object E)) (hz : ¬ z < 0) (hN : z.toNatClampNeg = N) (hb4 : N * 4 ≤ 536870912) (h1 : k + 1 ≤ ce) (h2 : n + N ≤ sl) (hd : decode cc pc = .ok (.anewarray ix, 3)) (kk : ∀ q : Nat, Fr (wf σ) q → q ≠ eE.1 → ∃ σ' : S, wf σ' = wf σ ++ [(q, .inl (c0, N, .inr (.inr (.inr (.inr (fun _ => none))))))] ∧ J wf X nL (k + 1) (n + N) σ' (pc + 3) loc (.ref q :: rest)) : J wf X nL k n σ pc loc (.int z :: rest) := by
  obtain ⟨p, l, e, R, s, m, args, below, meth, c, Q, D, A, tys⟩ := X
  obtain ⟨rfl, rfl, rfl, hx, hb, hml, ho, hts, hK, hA, e1, e2, e3, e4, hsp, hsz⟩ := C
  intro H locs ls hl hP hD hS
  refine va_newq hx hb ho (hts _ w1) (hover _ hsp) hK hP hD hS hA hz hN hb4 (by rw [e3]; exact h1) (by rw [e4]; exact h2) hd (fun q cA H1 hK1 hP1 hD1 hS1 => ?_)
  have hc : cA = c0 := by
    have r1 := (hK1.2 tys.length (cA, .object E) (by rw [List.getElem?_append_right (Nat.le_refl _), Nat.sub_self]; rfl)).2
    have r0 := (hK.2 t0 _ ht).2
    obtain ⟨_, _, _, _, _, f1⟩ := r1
    obtain ⟨_, _, _, _, _, f0⟩ := r0
    exact Option.some.inj (f1.symm.trans f0)
  subst hc
  obtain ⟨_, _, _, _, _, _, _, hqA⟩ := hsz.2.1
  obtain ⟨σ', hw, hJ⟩ := kk q (Fr.of hD1) (fun hz => hqA (hz ▸ Fr.lastA hD1))
  exact hJ H1 locs ls hl (by rw [hw]; exact hP1) (by rw [hw]; exact hD1) hS1
theorem j_gets0 (C : JC X l0 D0 tt eE cc own nL Ts fr lo ce sl) {ix : Nat} (hw : Cond.fieldLink own ix "java/util/ArrayList" "DEFAULTCAPACITY_EMPTY_ELEMENTDATA" "[Ljava/lang/Object;" ∈ Ts) (hd : decode cc pc = .ok (.getstatic ix, 3)) (kk : J wf X nL k n σ (pc + 3) loc (.ref eE.1 :: rest)) : J wf X nL k n σ pc loc rest := by
  obtain ⟨p, l, e, R, s, m, args, below, meth, c, Q, D, A, tys⟩ := X
  obtain ⟨rfl, rfl, rfl, hx, hb, hml, ho, hts, hK, hA, e1, e2, e3, e4, hsp, hsz⟩ := C
  intro H locs ls hl hP hD hS
  exact va_gets hx hb hsz.1 hS ho (hts _ hw) (fun x h => h) hd (kk H locs ls hl hP hD hS)
theorem j_tlen0 (C : JC X l0 D0 tt eE cc own nL Ts fr lo ce sl) (hd : decode cc pc = .ok (.arraylength, 1)) (kk : J wf X nL k n σ (pc + 1) loc (.int 0 :: rest)) : J wf X nL k n σ pc loc (.ref eE.1 :: rest) := by
  obtain ⟨p, l, e, R, s, m, args, below, meth, c, Q, D, A, tys⟩ := X
  obtain ⟨rfl, rfl, rfl, hx, hb, hml, ho, hts, hK, hA, e1, e2, e3, e4, hsp, hsz⟩ := C
  intro H locs ls hl hP hD hS
  exact va_tlen hx hb hsz.2.1 hS (by decide) hd (kk H locs ls hl hP hD hS)
theorem j_acmp_eq (C : JC X l0 D0 tt eE cc own nL Ts fr lo ce sl) {x y : Nat} {off : Int} {tgt : Nat} (hd : decode cc pc = .ok (.if_acmp .eq off, 3)) (ht : (pc : Int) + off = (tgt : Int)) (kt : x = y → J wf X nL k n σ tgt loc rest) (kf : ¬ x = y → J wf X nL k n σ (pc + 3) loc rest) : J wf X nL k n σ pc loc (.ref y :: .ref x :: rest) := by
  obtain ⟨p, l, e, R, s, m, args, below, meth, c, Q, D, A, tys⟩ := X
  obtain ⟨rfl, rfl, rfl, hx, hb, hml, ho, hts, hK, hA, e1, e2, e3, e4, hsp, hsz⟩ := C
  intro H locs ls hl hP hD hS
  exact lv_acmp_eq (rx := some x) (ry := some y) hx hb hd ht (fun h => kt (Option.some.inj h) H locs ls hl hP hD hS) (fun h => kf (fun z => h (congrArg some z)) H locs ls hl hP hD hS)
theorem j_acmp_ne (C : JC X l0 D0 tt eE cc own nL Ts fr lo ce sl) {x y : Nat} {off : Int} {tgt : Nat} (hd : decode cc pc = .ok (.if_acmp .ne off, 3)) (ht : (pc : Int) + off = (tgt : Int)) (kt : ¬ x = y → J wf X nL k n σ tgt loc rest) (kf : x = y → J wf X nL k n σ (pc + 3) loc rest) : J wf X nL k n σ pc loc (.ref y :: .ref x :: rest) := by
  obtain ⟨p, l, e, R, s, m, args, below, meth, c, Q, D, A, tys⟩ := X
  obtain ⟨rfl, rfl, rfl, hx, hb, hml, ho, hts, hK, hA, e1, e2, e3, e4, hsp, hsz⟩ := C
  intro H locs ls hl hP hD hS
  exact lv_acmp_ne (rx := some x) (ry := some y) hx hb hd ht (fun h => kt (fun z => h (congrArg some z)) H locs ls hl hP hD hS) (fun h => kf (Option.some.inj h) H locs ls hl hP hD hS)
theorem j_ldcM (C : JC X l0 D0 tt eE cc own nL Ts fr lo ce sl) {ix : Nat} (hw : Cond.classLink own ix "[Ljava/lang/Object;" ∈ Ts) (hd : decode cc pc = .ok (.ldc ix, 2)) (kk : J wf X nL k n σ (pc + 2) loc (.ref eE.2 :: rest)) : J wf X nL k n σ pc loc rest := by
  obtain ⟨p, l, e, R, s, m, args, below, meth, c, Q, D, A, tys⟩ := X
  obtain ⟨rfl, rfl, rfl, hx, hb, hml, ho, hts, hK, hA, e1, e2, e3, e4, hsp, hsz⟩ := C
  intro H locs ls hl hP hD hS
  exact va_ldcM hx hb ho (hts _ hw) hsz.2.2 hd (kk H locs ls hl hP hD hS)
theorem j_getC (C : JC X l0 D0 tt eE cc own nL Ts fr lo ce sl) {a ix N : Nat} {c0 : ClassId} {f : Nat → Option Nat} (t0 : Nat) (hr : Rd (wf σ) a (.inl (c0, N, .inr (.inr (.inr (.inr f)))))) (ht : tt[t0]? = some (c0, .object "java/lang/Object")) (w1 : Cond.methodLink own ix ⟨"java/lang/Object", "getClass", "()Ljava/lang/Class;"⟩ ∈ Ts) (w2 : Cond.selects "[Ljava/lang/Object;" ⟨"java/lang/Object", "getClass", "()Ljava/lang/Class;"⟩ ⟨"java/lang/Object", "getClass", "()Ljava/lang/Class;"⟩ ∈ Ts) (w3 : Cond.instanceMethod ⟨"java/lang/Object", "getClass", "()Ljava/lang/Class;"⟩ ∈ Ts) (w4 : Cond.native ⟨"java/lang/Object", "getClass", "()Ljava/lang/Class;"⟩ ∈ Ts) (h1 : 1 ≤ fr) (h2 : (rest.map fun v => v.category).sum + 14 ≤ lo) (hd : decode cc pc = .ok (.invokevirtual ix, 3)) (kk : J wf X nL k n σ (pc + 3) loc (.ref eE.2 :: rest)) : J wf X nL k n σ pc loc (.ref a :: rest) := by
  obtain ⟨p, l, e, R, s, m, args, below, meth, c, Q, D, A, tys⟩ := X
  obtain ⟨rfl, rfl, rfl, hx, hb, hml, ho, hts, hK, hA, e1, e2, e3, e4, hsp, hsz⟩ := C
  intro H locs ls hl hP hD hS
  obtain ⟨q0, hq⟩ := hr
  have hcell := hP q0 _ hq
  exact va_getC (C := "[Ljava/lang/Object;") hx hb (by rw [hml]; exact hl.1.symm) ho (hts _ w1) (va_Dc.use hsp.2.2.1) (hts _ w2) (hts _ w3) (hts _ w4) hsz.2.2 ⟨_, hcell, rfl, va_nmO (hK.2 t0 _ ht).2 (by decide)⟩ (by rw [e1]; exact h1) (by rw [e2]; exact h2) hd (kk H locs ls hl hP hD hS)
theorem j_copyq2 (C : JC X l0 D0 tt eE cc own nL Ts fr lo ce sl) {a a0 ix n0 n1 ci N : Nat} {c0 : ClassId} {f g : Nat → Option Nat} {Cn : String} {T : u_T} {sp dp z : Int32} (t0 : Nat) (hr0 : Rd (wf σ) a0 (.inl (c0, n0, .inr (.inr (.inr (.inr f)))))) (hr : Wr (wf σ) a (.inl (c0, n1, .inr (.inr (.inr (.inr g))))) (.inl (c0, n1, .inr (.inr (.inr (.inr (va_cpy f g sp.toNatClampNeg dp.toNatClampNeg z.toNatClampNeg)))))) (wf σ')) (ht : tt[t0]? = some (c0, .object "java/lang/Object")) (hel : ∀ i : Nat, i < z.toNatClampNeg → ∀ y : Nat, f (sp.toNatClampNeg + i) = some y → ∃ fs : List Value, Rd (wf σ) y (.inr (ci, fs))) (hc : vwCl[ci]? = some (Cn, T, N)) (hca : (Cn, "java/lang/Object") ∈ SPC) (w1 : Cond.methodLink own ix arraycopyName ∈ Ts) (w2 : Cond.native arraycopyName ∈ Ts) (w3 : Cond.static arraycopyName ∈ Ts) (w4 : Cond.initialized "java/lang/System" ∈ Ts) (h1 : ¬ sp < 0) (h2 : ¬ dp < 0) (h3 : ¬ z < 0) (h4 : sp.toNatClampNeg + z.toNatClampNeg ≤ n0) (h5 : dp.toNatClampNeg + z.toNatClampNeg ≤ n1) (h6 : 1 ≤ fr) (h7 : (rest.map fun v => v.category).sum + (nativeFrameWords "java/lang/System" "arraycopy" 5 + 11) ≤ lo) (hd : decode cc pc = .ok (.invokestatic ix, 3)) (kk : J wf X nL k n σ' (pc + 3) loc rest) : J wf X nL k n σ pc loc (.int z :: .int dp :: .ref a :: .int sp :: .ref a0 :: rest) := by
  obtain ⟨p, l, e, R, s, m, args, below, meth, c, Q, D, A, tys⟩ := X
  obtain ⟨rfl, rfl, rfl, hx, hb, hml, ho, hts, hK, hA, e1, e2, e3, e4, hsp, hsz⟩ := C
  intro H locs ls hl hP hD hS
  obtain ⟨q1, hq1, hset⟩ := hr _ hD
  obtain ⟨q0, hq0⟩ := hr0
  exact va_copyq (C := Cn) hx hb (by rw [hml]; exact hl.1.symm) ho (hts _ w1) (hts _ w2) (hts _ w3) (hts _ w4) hK hP hD hS q0 q1 t0 t0 hq0 hq1 ht ht h1 h2 h3 h4 h5 (fun i hi y hy => by obtain ⟨fs, q, hq⟩ := hel i hi y hy; exact va_recv hK hP hc hq) (vb_asgC (hsp.2.1 _ hca)) (by rw [e1]; exact h6) (by rw [e2]; exact h7) hd (fun H1 locs1 hP1 hD1 hS1 => kk H1 locs1 ls hl (by rw [← hset]; exact hP1) (by rw [← hset]; exact hD1) hS1)
end JNEW
section SNEW
variable {ad : Nat → Nat} {cs : Nat → ClassId} {σ : ST}
theorem fr_pool {q : Nat} (h : Fr (wfm ad cs σ) q) : q ∉ pL σ := by
  intro hq
  obtain ⟨k, hk⟩ := va_pl_get (X := wfx ad cs σ) (f := pfn cs σ) hq
  exact h k _ hk rfl
theorem sN_ne {q a kd c : Nat} {p : Nat → Int32} {f : Nat → Option Nat} (h : a ≠ q) : pK (sN σ q kd p c f) a = pK σ a ∧ pP (sN σ q kd p c f) a = pP σ a ∧ pC (sN σ q kd p c f) a = pC σ a ∧ pR (sN σ q kd p c f) a = pR σ a :=
  ⟨va_up_ne _ _ h, va_up_ne _ _ h, va_up_ne _ _ h, va_up_ne _ _ h⟩
theorem sN_eq {q kd c : Nat} {p : Nat → Int32} {f : Nat → Option Nat} : pK (sN σ q kd p c f) q = kd ∧ pP (sN σ q kd p c f) q = p ∧ pC (sN σ q kd p c f) q = c ∧ pR (sN σ q kd p c f) q = f :=
  ⟨va_up_self _ _ _, va_up_self _ _ _, va_up_self _ _ _, va_up_self _ _ _⟩
theorem sN_pL {q kd c : Nat} {p : Nat → Int32} {f : Nat → Option Nat} : pL (sN σ q kd p c f) = pL σ ++ [q] := rfl
theorem sN_wf {q kd c : Nat} {p : Nat → Int32} {f : Nat → Option Nat} (hq : q ∉ pL σ) : wfm ad cs (sN σ q kd p c f) = wfm ad cs σ ++ [(q, pfn cs (sN σ q kd p c f) q)] := by
  show wfx ad cs σ ++ va_pl (pL σ ++ [q]) (pfn cs (sN σ q kd p c f)) = (wfx ad cs σ ++ va_pl (pL σ) (pfn cs σ)) ++ [(q, pfn cs (sN σ q kd p c f) q)]
  rw [List.append_assoc, va_pl_push hq]
  congr 1
  apply va_pl_congr
  intro a
  by_cases ha : a = q
  · subst ha
    rw [va_up_self]
  · rw [va_up_ne _ _ ha]
    obtain ⟨h1, h2, h3, h4⟩ := sN_ne (σ := σ) (kd := kd) (c := c) (p := p) (f := f) ha
    unfold pfn
    rw [h1, h2, h3, h4]
theorem sN_pf0 {q c : Nat} {p : Nat → Int32} {f : Nat → Option Nat} : pfn cs (sN σ q 0 p c f) q = pe0 (cs 5) c f := by
  obtain ⟨h1, h2, h3, h4⟩ := sN_eq (σ := σ) (q := q) (kd := 0) (c := c) (p := p) (f := f)
  unfold pfn
  rw [h1, h3, h4]
  rfl
theorem sN_pf2 {q c : Nat} {p : Nat → Int32} {f : Nat → Option Nat} : pfn cs (sN σ q 2 p c f) q = pe2 p := by
  obtain ⟨h1, h2, h3, h4⟩ := sN_eq (σ := σ) (q := q) (kd := 2) (c := c) (p := p) (f := f)
  unfold pfn
  rw [h1, h2]
  rfl
theorem sN_pf3 {q c : Nat} {p : Nat → Int32} {f : Nat → Option Nat} : pfn cs (sN σ q 3 p c f) q = pe3 p := by
  obtain ⟨h1, h2, h3, h4⟩ := sN_eq (σ := σ) (q := q) (kd := 3) (c := c) (p := p) (f := f)
  unfold pfn
  rw [h1, h2]
  rfl
theorem sN_sF {q c : Nat} {p : Nat → Int32} {f g : Nat → Option Nat} : sF (sN σ q 0 p c f) q g = sN σ q 0 p c g := by
  show (_, _, _, _, _, _, _, _, _, va_up (va_up _ q f) q g, _) = (_, _, _, _, _, _, _, _, _, va_up _ q g, _)
  rw [bx_uu]
  rfl
theorem imin_nI {a b : Nat} (h : a ≤ b) (hb : b < 2 ^ 31) : imin (nI a) (nI b) = nI a := by
  unfold imin
  rw [if_neg (nI_nlt h hb)]
end SNEW
