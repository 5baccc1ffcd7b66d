/-! pure texts: 'none' where the walk may not go -/
def FU : Nat := 1000
def nmI {α : Type} (x : Int32) (f : Int32 → Option α) : Option α := f x
def nmL {α : Type} (x : Int64) (f : Int64 → Option α) : Option α := f x
def nmS {S α : Type} (x : S) (f : S → Option α) : Option α := f x
def bd1 {α β : Type} (x : Option β) (f : β → Option α) : Option α := match x with
  | some z => f z
  | none => none
def bd2 {S α β : Type} (x : Option (β × S)) (f : β → S → Option α) : Option α := match x with
  | some z => f z.1 z.2
  | none => none
theorem o_nmI {α : Type} {x : Int32} {f : Int32 → Option α} {r : α} (h : nmI x f = some r) : ∃ y, y = x ∧ f y = some r := ⟨x, rfl, h⟩
theorem o_nmL {α : Type} {x : Int64} {f : Int64 → Option α} {r : α} (h : nmL x f = some r) : ∃ y, y = x ∧ f y = some r := ⟨x, rfl, h⟩
theorem o_nmS {S α : Type} {x : S} {f : S → Option α} {r : α} (h : nmS x f = some r) : ∃ y, y = x ∧ f y = some r := ⟨x, rfl, h⟩
theorem o_b1 {α β : Type} {x : Option β} {f : β → Option α} {r : α} (h : bd1 x f = some r) : ∃ z, x = some z ∧ f z = some r := by
  cases x with
  | none => exact nomatch h
  | some z => exact ⟨z, rfl, h⟩
theorem o_b2 {S α β : Type} {x : Option (β × S)} {f : β → S → Option α} {r : α} (h : bd2 x f = some r) : ∃ z s, x = some (z, s) ∧ f z s = some r := by
  cases x with
  | none => exact nomatch h
  | some z => exact ⟨z.1, z.2, rfl, h⟩
theorem o_gn {c : Prop} [Decidable c] {α : Type} {x : Option α} {r : α} (h : (if c then none else x) = some r) : ¬ c ∧ x = some r := by
  by_cases hc : c
  · rw [if_pos hc] at h; exact nomatch h
  · rw [if_neg hc] at h; exact ⟨hc, h⟩
theorem o_it {c : Prop} [Decidable c] {α : Type} {x y : Option α} {r : α} (hc : c) (h : (if c then x else y) = some r) : x = some r := by rw [if_pos hc] at h; exact h
theorem o_if {c : Prop} [Decidable c] {α : Type} {x y : Option α} {r : α} (hc : ¬ c) (h : (if c then x else y) = some r) : y = some r := by rw [if_neg hc] at h; exact h
theorem inc_p1 (x : Int32) : x + Int32.ofInt 1 = x + 1 := by rw [show Int32.ofInt 1 = 1 by decide]
theorem inc_p2 (x : Int32) : x + Int32.ofInt 2 = x + 2 := by rw [show Int32.ofInt 2 = 2 by decide]
theorem inc_p6 (x : Int32) : x + Int32.ofInt 6 = x + 6 := by rw [show Int32.ofInt 6 = 6 by decide]
theorem inc_p16 (x : Int32) : x + Int32.ofInt 16 = x + 16 := by rw [show Int32.ofInt 16 = 16 by decide]
theorem inc_m1 (x : Int32) : x + Int32.ofInt (-1) = x + (-1) := by rw [show Int32.ofInt (-1) = -1 by decide]
def imod (x y : Int32) : Int32 := x - x / y * y
def imin (x y : Int32) : Int32 := if y < x then y else x
def imax (x y : Int32) : Int32 := if x < y then y else x
def lmin (x y : Int64) : Int64 := if y < x then y else x
/-! what holds besides the words: links to nest mates' private members, casts, arrays of objects, ArrayList's empty array -/
def SPh (U : State) : Prop := (∀ q ∈ SPM, va_Nw (.methodLinkNest q.1 q.2.1 q.2.2.1 q.2.2.2) U) ∧ (∀ q ∈ SPC, va_Nw (.castable q.1 q.2) U) ∧ va_Dc U ∧ va_AO "TollLedger$Account" U ∧ va_AO "TollLedger$Offer" U ∧ va_AO "java/lang/Object" U
theorem SPh.warm {s U : State} (hW : s.WarmedH U.vm) (h : SPh s) : SPh U := by
  obtain ⟨h1, h2, h3, h4, h5, h6⟩ := h
  exact ⟨fun q hq => va_Nw.warmM hW (h1 q hq), fun q hq => va_Nw.warmC hW (h2 q hq), h3.moved hW.alike, h4.moved hW.alike, h5.moved hW.alike, h6.moved hW.alike⟩
theorem SPh.same {u U : State} (hv : u.vm = U.vm) (h : SPh u) : SPh U := by
  obtain ⟨h1, h2, h3, h4, h5, h6⟩ := h
  have ha : u.vm.Alike U.vm := by rw [← hv]; exact Vm.Alike.refl _
  exact ⟨fun q hq => va_Nw.same rfl hv (h1 q hq), fun q hq => va_Nw.same rfl hv (h2 q hq), h3.moved ha, h4.moved ha, h5.moved ha, h6.moved ha⟩
def SZ (eE : Nat × Nat) (A : Nat → Prop) (U : State) (H : Heap) : Prop := va_Z "java/util/ArrayList" "DEFAULTCAPACITY_EMPTY_ELEMENTDATA" "[Ljava/lang/Object;" (.ref eE.1) A U H ∧ va_T (.object "java/lang/Object") eE.1 0 (fun _ => .null) A U H ∧ va_Mi "[Ljava/lang/Object;" eE.2 U
theorem SZ.moved {eE : Nat × Nat} {A : Nat → Prop} {u U : State} {H : Heap} (hvm : u.vm.Alike U.vm) (h : SZ eE A u H) : SZ eE A U H := ⟨h.1.moved hvm, h.2.1.moved hvm, h.2.2.moved hvm⟩
theorem SZ.kept {eE : Nat × Nat} {A : Nat → Prop} {U : State} {H H1 : Heap} (h : SZ eE A U H) (hq : ∀ a : Nat, a < H.size → ¬ A a → H1[a]? = H[a]?) : SZ eE A U H1 := ⟨h.1.kept hq, h.2.1.kept hq, h.2.2⟩
theorem SZ.narrow {eE : Nat × Nat} {A B : Nat → Prop} {U : State} {H : Heap} (h : SZ eE A U H) (hAB : ∀ q, B q → A q) : SZ eE B U H := ⟨h.1.narrow hAB, h.2.1.narrow hAB, h.2.2⟩
/-! J: a method's run over an abstract state of any type S, whose cells are wf σ; X holds all that stays the same during the run -/
abbrev JX : Type := Program × Launch × Env × Room × State × MethodId × Array Value × List Frame × Method × Code × (State → Prop) × va_G × (Nat → Prop) × List (ClassId × FieldType)
def JC (X : JX) (l0 : Launch) (D0 : va_G) (tt : List (ClassId × FieldType)) (eE : Nat × Nat) (cc : ByteArray) (own : String) (nL : Nat) (Ts : List Cond) (fr lo ce sl : Nat) : Prop := match X with
  | (p, l, _, R, s, m, args, _, _, c, _, D, A, tys) => l = l0 ∧ D = D0 ∧ tys = tt ∧ p.tables.exec = Jvm.exec ∧ c.code = cc ∧ c.maxLocals = nL ∧ s.vm.findClass own = some m.cls ∧ (∀ w ∈ Ts, w.before args s = true) ∧ va_K D vwCl tys s ∧ (∀ q, s.heap.size ≤ q → A q) ∧ R.frames = fr ∧ R.locals = lo ∧ R.cells = ce ∧ R.slots = sl ∧ SPh s ∧ SZ eE A s s.heap
def J {S : Type} (wf : S → va_W) (X : JX) (nL k n : Nat) (σ : S) (pc : Nat) (loc : List (Nat × Value)) (st : List Value) : Prop := match X with
  | (p, l, e, R, s, m, args, below, meth, c, Q, D, A, _) => ∀ (H : Heap) (locs : List Loc) (ls : Array Slot), lv_has ls nL loc → va_P D vwCl (wf σ) H → va_D A (wf σ) → va_S A s.heap H locs → W p l e R s m args below meth c H locs k n Q (F0 m pc ls st)
section JROWS
variable {S : Type} {wf : S → va_W} {X : JX} {l0 : Launch} {D0 : va_G} {tt : List (ClassId × FieldType)} {eE : Nat × Nat} {cc : ByteArray} {own : String} {nL : Nat} {Ts : List Cond} {fr lo ce sl k n : Nat} {σ σ' : S} {pc : Nat} {loc loc' : List (Nat × Value)} {st rest : List Value}
theorem j_eq {pc' : Nat} (h : pc = pc') (kk : J wf X nL k n σ pc' loc st) : J wf X nL k n σ pc loc st := h ▸ kk
theorem j_topI {x y : Int32} (h : x = y) (kk : J wf X nL k n σ pc loc (.int x :: rest)) : J wf X nL k n σ pc loc (.int y :: rest) := h ▸ kk
theorem j_topL {x y : Int64} (h : x = y) (kk : J wf X nL k n σ pc loc (.long x :: rest)) : J wf X nL k n σ pc loc (.long y :: rest) := h ▸ kk
theorem j_sub (ks : List Nat) (h : lv_pick loc ks = loc') (kk : J wf X nL k n σ pc loc' st) : J wf X nL k n σ pc loc st := by
  obtain ⟨p, l, e, R, s, m, args, below, meth, c, Q, D, A, tys⟩ := X
  intro H locs ls hl hP hD hS
  exact kk H locs ls (lv_sub hl ks h) hP hD hS
theorem j_widen {k' n' : Nat} (h1 : k ≤ k') (h2 : n ≤ n') (kk : J wf X nL k' n' σ pc loc st) : J wf X nL k n σ pc loc st := by
  obtain ⟨p, l, e, R, s, m, args, below, meth, c, Q, D, A, tys⟩ := X
  intro H locs ls hl hP hD hS
  exact W.widen h1 h2 (kk H locs ls hl hP hD hS)
theorem j_iconst (C : JC X l0 D0 tt eE cc own nL Ts fr lo ce sl) {z : Int} {v : Int32} (hv : Int32.ofInt z = v) (hd : decode cc pc = .ok (.iconst z, 1)) (kk : J wf X nL k n σ (pc + 1) loc (.int v :: rest)) : J wf X nL k n σ pc loc (rest) := by
  obtain ⟨p, l, e, R, s, m, args, below, meth, c, Q, D, A, tys⟩ := X
  obtain ⟨rfl, rfl, rfl, hx, hb, hml, ho, hts, hK, hA, e1, e2, e3, e4, hsp, hsz⟩ := C
  intro H locs ls hl hP hD hS
  exact lv_iconst hx hb hd hv (kk H locs ls hl hP hD hS)
theorem j_bipush (C : JC X l0 D0 tt eE cc own nL Ts fr lo ce sl) {z : Int} {v : Int32} (hv : (Int8.ofInt z).toInt32 = v) (hd : decode cc pc = .ok (.bipush z, 2)) (kk : J wf X nL k n σ (pc + 2) loc (.int v :: rest)) : J wf X nL k n σ pc loc (rest) := by
  obtain ⟨p, l, e, R, s, m, args, below, meth, c, Q, D, A, tys⟩ := X
  obtain ⟨rfl, rfl, rfl, hx, hb, hml, ho, hts, hK, hA, e1, e2, e3, e4, hsp, hsz⟩ := C
  intro H locs ls hl hP hD hS
  exact lv_bipush hx hb hd hv (kk H locs ls hl hP hD hS)
theorem j_sipush (C : JC X l0 D0 tt eE cc own nL Ts fr lo ce sl) {z : Int} {v : Int32} (hv : (Int16.ofInt z).toInt32 = v) (hd : decode cc pc = .ok (.sipush z, 3)) (kk : J wf X nL k n σ (pc + 3) loc (.int v :: rest)) : J wf X nL k n σ pc loc (rest) := by
  obtain ⟨p, l, e, R, s, m, args, below, meth, c, Q, D, A, tys⟩ := X
  obtain ⟨rfl, rfl, rfl, hx, hb, hml, ho, hts, hK, hA, e1, e2, e3, e4, hsp, hsz⟩ := C
  intro H locs ls hl hP hD hS
  exact lv_sipush hx hb hd hv (kk H locs ls hl hP hD hS)
theorem j_lconst (C : JC X l0 D0 tt eE cc own nL Ts fr lo ce sl) {z : Fin 2} {v : Int64} (hv : Int64.ofNat (z : Nat) = v) (hd : decode cc pc = .ok (.lconst z, 1)) (kk : J wf X nL k n σ (pc + 1) loc (.long v :: rest)) : J wf X nL k n σ pc loc (rest) := by
  obtain ⟨p, l, e, R, s, m, args, below, meth, c, Q, D, A, tys⟩ := X
  obtain ⟨rfl, rfl, rfl, hx, hb, hml, ho, hts, hK, hA, e1, e2, e3, e4, hsp, hsz⟩ := C
  intro H locs ls hl hP hD hS
  exact lv_lconst hx hb hd hv (kk H locs ls hl hP hD hS)
theorem j_ldc (C : JC X l0 D0 tt eE cc own nL Ts fr lo ce sl) {ix : Nat} {v : Int32} (hw : Cond.constant own ix v ∈ Ts) (hd : decode cc pc = .ok (.ldc ix, 2)) (kk : J wf X nL k n σ (pc + 2) loc (.int v :: rest)) : J wf X nL k n σ pc loc (rest) := by
  obtain ⟨p, l, e, R, s, m, args, below, meth, c, Q, D, A, tys⟩ := X
  obtain ⟨rfl, rfl, rfl, hx, hb, hml, ho, hts, hK, hA, e1, e2, e3, e4, hsp, hsz⟩ := C
  intro H locs ls hl hP hD hS
  exact lv_ldc hx hb ho (hts _ hw) hd (kk H locs ls hl hP hD hS)
theorem j_ldc2 (C : JC X l0 D0 tt eE cc own nL Ts fr lo ce sl) {ix : Nat} {v : Int64} (hw : Cond.constantLong own ix v ∈ Ts) (hd : decode cc pc = .ok (.ldc2_w ix, 3)) (kk : J wf X nL k n σ (pc + 3) loc (.long v :: rest)) : J wf X nL k n σ pc loc (rest) := by
  obtain ⟨p, l, e, R, s, m, args, below, meth, c, Q, D, A, tys⟩ := X
  obtain ⟨rfl, rfl, rfl, hx, hb, hml, ho, hts, hK, hA, e1, e2, e3, e4, hsp, hsz⟩ := C
  intro H locs ls hl hP hD hS
  exact lv_ldc2 hx hb ho (hts _ hw) hd (kk H locs ls hl hP hD hS)
theorem j_null (C : JC X l0 D0 tt eE cc own nL Ts fr lo ce sl) (hd : decode cc pc = .ok (.aconst_null, 1)) (kk : J wf X nL k n σ (pc + 1) loc (.null :: rest)) : J wf X nL k n σ pc loc (rest) := by
  obtain ⟨p, l, e, R, s, m, args, below, meth, c, Q, D, A, tys⟩ := X
  obtain ⟨rfl, rfl, rfl, hx, hb, hml, ho, hts, hK, hA, e1, e2, e3, e4, hsp, hsz⟩ := C
  intro H locs ls hl hP hD hS
  exact lv_null hx hb hd (kk H locs ls hl hP hD hS)
theorem j_iload_n (C : JC X l0 D0 tt eE cc own nL Ts fr lo ce sl) {j : Fin 4} {i : Nat} {x : Int32} (q : Nat) (hi : (j : Nat) = i) (hq : loc[q]? = some (i, .int x)) (hd : decode cc pc = .ok (.iload_n j, 1)) (kk : J wf X nL k n σ (pc + 1) loc (.int x :: rest)) : J wf X nL k n σ pc loc (rest) := by
  obtain ⟨p, l, e, R, s, m, args, below, meth, c, Q, D, A, tys⟩ := X
  obtain ⟨rfl, rfl, rfl, hx, hb, hml, ho, hts, hK, hA, e1, e2, e3, e4, hsp, hsz⟩ := C
  intro H locs ls hl hP hD hS
  exact lv_iload_n hx hb hd hi (lv_at hl q hq) (kk H locs ls hl hP hD hS)
theorem j_iload (C : JC X l0 D0 tt eE cc own nL Ts fr lo ce sl) {i : Nat} {x : Int32} (q : Nat) (hq : loc[q]? = some (i, .int x)) (hd : decode cc pc = .ok (.iload i, 2)) (kk : J wf X nL k n σ (pc + 2) loc (.int x :: rest)) : J wf X nL k n σ pc loc (rest) := by
  obtain ⟨p, l, e, R, s, m, args, below, meth, c, Q, D, A, tys⟩ := X
  obtain ⟨rfl, rfl, rfl, hx, hb, hml, ho, hts, hK, hA, e1, e2, e3, e4, hsp, hsz⟩ := C
  intro H locs ls hl hP hD hS
  exact lv_iload hx hb hd (lv_at hl q hq) (kk H locs ls hl hP hD hS)
theorem j_lload_n (C : JC X l0 D0 tt eE cc own nL Ts fr lo ce sl) {j : Fin 4} {i : Nat} {x : Int64} (q : Nat) (hi : (j : Nat) = i) (hq : loc[q]? = some (i, .long x)) (hd : decode cc pc = .ok (.lload_n j, 1)) (kk : J wf X nL k n σ (pc + 1) loc (.long x :: rest)) : J wf X nL k n σ pc loc (rest) := by
  obtain ⟨p, l, e, R, s, m, args, below, meth, c, Q, D, A, tys⟩ := X
  obtain ⟨rfl, rfl, rfl, hx, hb, hml, ho, hts, hK, hA, e1, e2, e3, e4, hsp, hsz⟩ := C
  intro H locs ls hl hP hD hS
  exact lv_lload_n hx hb hd hi (lv_at hl q hq) (kk H locs ls hl hP hD hS)
theorem j_lload (C : JC X l0 D0 tt eE cc own nL Ts fr lo ce sl) {i : Nat} {x : Int64} (q : Nat) (hq : loc[q]? = some (i, .long x)) (hd : decode cc pc = .ok (.lload i, 2)) (kk : J wf X nL k n σ (pc + 2) loc (.long x :: rest)) : J wf X nL k n σ pc loc (rest) := by
  obtain ⟨p, l, e, R, s, m, args, below, meth, c, Q, D, A, tys⟩ := X
  obtain ⟨rfl, rfl, rfl, hx, hb, hml, ho, hts, hK, hA, e1, e2, e3, e4, hsp, hsz⟩ := C
  intro H locs ls hl hP hD hS
  exact lv_lload hx hb hd (lv_at hl q hq) (kk H locs ls hl hP hD hS)
theorem j_aload_n (C : JC X l0 D0 tt eE cc own nL Ts fr lo ce sl) {j : Fin 4} {i : Nat} {x : Nat} (q : Nat) (hi : (j : Nat) = i) (hq : loc[q]? = some (i, .ref x)) (hd : decode cc pc = .ok (.aload_n j, 1)) (kk : J wf X nL k n σ (pc + 1) loc (.ref x :: rest)) : J wf X nL k n σ pc loc (rest) := by
  obtain ⟨p, l, e, R, s, m, args, below, meth, c, Q, D, A, tys⟩ := X
  obtain ⟨rfl, rfl, rfl, hx, hb, hml, ho, hts, hK, hA, e1, e2, e3, e4, hsp, hsz⟩ := C
  intro H locs ls hl hP hD hS
  exact lv_aload_n hx hb hd hi (lv_at hl q hq) (kk H locs ls hl hP hD hS)
theorem j_aload (C : JC X l0 D0 tt eE cc own nL Ts fr lo ce sl) {i : Nat} {x : Nat} (q : Nat) (hq : loc[q]? = some (i, .ref x)) (hd : decode cc pc = .ok (.aload i, 2)) (kk : J wf X nL k n σ (pc + 2) loc (.ref x :: rest)) : J wf X nL k n σ pc loc (rest) := by
  obtain ⟨p, l, e, R, s, m, args, below, meth, c, Q, D, A, tys⟩ := X
  obtain ⟨rfl, rfl, rfl, hx, hb, hml, ho, hts, hK, hA, e1, e2, e3, e4, hsp, hsz⟩ := C
  intro H locs ls hl hP hD hS
  exact lv_aload hx hb hd (lv_at hl q hq) (kk H locs ls hl hP hD hS)
theorem j_aload_nN (C : JC X l0 D0 tt eE cc own nL Ts fr lo ce sl) {j : Fin 4} {i : Nat} (q : Nat) (hi : (j : Nat) = i) (hq : loc[q]? = some (i, .null)) (hd : decode cc pc = .ok (.aload_n j, 1)) (kk : J wf X nL k n σ (pc + 1) loc (.null :: rest)) : J wf X nL k n σ pc loc (rest) := by
  obtain ⟨p, l, e, R, s, m, args, below, meth, c, Q, D, A, tys⟩ := X
  obtain ⟨rfl, rfl, rfl, hx, hb, hml, ho, hts, hK, hA, e1, e2, e3, e4, hsp, hsz⟩ := C
  intro H locs ls hl hP hD hS
  exact lv_aload_nN hx hb hd hi (lv_at hl q hq) (kk H locs ls hl hP hD hS)
theorem j_aloadN (C : JC X l0 D0 tt eE cc own nL Ts fr lo ce sl) {i : Nat} (q : Nat) (hq : loc[q]? = some (i, .null)) (hd : decode cc pc = .ok (.aload i, 2)) (kk : J wf X nL k n σ (pc + 2) loc (.null :: rest)) : J wf X nL k n σ pc loc (rest) := by
  obtain ⟨p, l, e, R, s, m, args, below, meth, c, Q, D, A, tys⟩ := X
  obtain ⟨rfl, rfl, rfl, hx, hb, hml, ho, hts, hK, hA, e1, e2, e3, e4, hsp, hsz⟩ := C
  intro H locs ls hl hP hD hS
  exact lv_aloadN hx hb hd (lv_at hl q hq) (kk H locs ls hl hP hD hS)
theorem j_istore_n (C : JC X l0 D0 tt eE cc own nL Ts fr lo ce sl) {j : Fin 4} {i : Nat} {x : Int32} (hi : (j : Nat) = i) (hn : i < nL) (hf : (i, Value.int x) :: loc.filter (fun q => !(q.1 == i) && !(q.1 + 1 == i && q.2.category == 2)) = loc') (hd : decode cc pc = .ok (.istore_n j, 1)) (kk : J wf X nL k n σ (pc + 1) loc' rest) : J wf X nL k n σ pc loc (Value.int x :: rest) := by
  obtain ⟨p, l, e, R, s, m, args, below, meth, c, Q, D, A, tys⟩ := X
  obtain ⟨rfl, rfl, rfl, hx, hb, hml, ho, hts, hK, hA, e1, e2, e3, e4, hsp, hsz⟩ := C
  intro H locs ls hl hP hD hS
  exact lv_istore_n hx hb hd hi hl hn hf (fun ls' h' => kk H locs ls' h' hP hD hS)
theorem j_istore (C : JC X l0 D0 tt eE cc own nL Ts fr lo ce sl) {i : Nat} {x : Int32} (hn : i < nL) (hf : (i, Value.int x) :: loc.filter (fun q => !(q.1 == i) && !(q.1 + 1 == i && q.2.category == 2)) = loc') (hd : decode cc pc = .ok (.istore i, 2)) (kk : J wf X nL k n σ (pc + 2) loc' rest) : J wf X nL k n σ pc loc (Value.int x :: rest) := by
  obtain ⟨p, l, e, R, s, m, args, below, meth, c, Q, D, A, tys⟩ := X
  obtain ⟨rfl, rfl, rfl, hx, hb, hml, ho, hts, hK, hA, e1, e2, e3, e4, hsp, hsz⟩ := C
  intro H locs ls hl hP hD hS
  exact lv_istore hx hb hd hl hn hf (fun ls' h' => kk H locs ls' h' hP hD hS)
theorem j_lstore_n (C : JC X l0 D0 tt eE cc own nL Ts fr lo ce sl) {j : Fin 4} {i : Nat} {x : Int64} (hi : (j : Nat) = i) (hn : i + 1 < nL) (hf : (i, Value.long x) :: loc.filter (fun q => !(q.1 == i) && (!(q.1 == i + 1) && !(q.1 + 1 == i && q.2.category == 2))) = loc') (hd : decode cc pc = .ok (.lstore_n j, 1)) (kk : J wf X nL k n σ (pc + 1) loc' rest) : J wf X nL k n σ pc loc (Value.long x :: rest) := by
  obtain ⟨p, l, e, R, s, m, args, below, meth, c, Q, D, A, tys⟩ := X
  obtain ⟨rfl, rfl, rfl, hx, hb, hml, ho, hts, hK, hA, e1, e2, e3, e4, hsp, hsz⟩ := C
  intro H locs ls hl hP hD hS
  exact lv_lstore_n hx hb hd hi hl hn hf (fun ls' h' => kk H locs ls' h' hP hD hS)
theorem j_lstore (C : JC X l0 D0 tt eE cc own nL Ts fr lo ce sl) {i : Nat} {x : Int64} (hn : i + 1 < nL) (hf : (i, Value.long x) :: loc.filter (fun q => !(q.1 == i) && (!(q.1 == i + 1) && !(q.1 + 1 == i && q.2.category == 2))) = loc') (hd : decode cc pc = .ok (.lstore i, 2)) (kk : J wf X nL k n σ (pc + 2) loc' rest) : J wf X nL k n σ pc loc (Value.long x :: rest) := by
  obtain ⟨p, l, e, R, s, m, args, below, meth, c, Q, D, A, tys⟩ := X
  obtain ⟨rfl, rfl, rfl, hx, hb, hml, ho, hts, hK, hA, e1, e2, e3, e4, hsp, hsz⟩ := C
  intro H locs ls hl hP hD hS
  exact lv_lstore hx hb hd hl hn hf (fun ls' h' => kk H locs ls' h' hP hD hS)
theorem j_astore_n (C : JC X l0 D0 tt eE cc own nL Ts fr lo ce sl) {j : Fin 4} {i : Nat} {x : Nat} (hi : (j : Nat) = i) (hn : i < nL) (hf : (i, Value.ref x) :: loc.filter (fun q => !(q.1 == i) && !(q.1 + 1 == i && q.2.category == 2)) = loc') (hd : decode cc pc = .ok (.astore_n j, 1)) (kk : J wf X nL k n σ (pc + 1) loc' rest) : J wf X nL k n σ pc loc (Value.ref x :: rest) := by
  obtain ⟨p, l, e, R, s, m, args, below, meth, c, Q, D, A, tys⟩ := X
  obtain ⟨rfl, rfl, rfl, hx, hb, hml, ho, hts, hK, hA, e1, e2, e3, e4, hsp, hsz⟩ := C
  intro H locs ls hl hP hD hS
  exact lv_astore_n hx hb hd hi hl hn hf (fun ls' h' => kk H locs ls' h' hP hD hS)
theorem j_astore (C : JC X l0 D0 tt eE cc own nL Ts fr lo ce sl) {i : Nat} {x : Nat} (hn : i < nL) (hf : (i, Value.ref x) :: loc.filter (fun q => !(q.1 == i) && !(q.1 + 1 == i && q.2.category == 2)) = loc') (hd : decode cc pc = .ok (.astore i, 2)) (kk : J wf X nL k n σ (pc + 2) loc' rest) : J wf X nL k n σ pc loc (Value.ref x :: rest) := by
  obtain ⟨p, l, e, R, s, m, args, below, meth, c, Q, D, A, tys⟩ := X
  obtain ⟨rfl, rfl, rfl, hx, hb, hml, ho, hts, hK, hA, e1, e2, e3, e4, hsp, hsz⟩ := C
  intro H locs ls hl hP hD hS
  exact lv_astore hx hb hd hl hn hf (fun ls' h' => kk H locs ls' h' hP hD hS)
theorem j_iinc (C : JC X l0 D0 tt eE cc own nL Ts fr lo ce sl) {i : Nat} {z : Int} {x v : Int32} (q : Nat) (hq : loc[q]? = some (i, .int x)) (hv : x + Int32.ofInt z = v) (hn : i < nL) (hf : (i, Value.int v) :: loc.filter (fun q => !(q.1 == i) && !(q.1 + 1 == i && q.2.category == 2)) = loc') (hd : decode cc pc = .ok (.iinc i z, 3)) (kk : J wf X nL k n σ (pc + 3) loc' rest) : J wf X nL k n σ pc loc rest := by
  obtain ⟨p, l, e, R, s, m, args, below, meth, c, Q, D, A, tys⟩ := X
  obtain ⟨rfl, rfl, rfl, hx, hb, hml, ho, hts, hK, hA, e1, e2, e3, e4, hsp, hsz⟩ := C
  intro H locs ls hl hP hD hS
  exact lv_iinc hx hb hd hl hq hv hn hf (fun ls' h' => kk H locs ls' h' hP hD hS)
theorem j_iadd (C : JC X l0 D0 tt eE cc own nL Ts fr lo ce sl) {x y : Int32} (hd : decode cc pc = .ok (.iadd, 1)) (kk : J wf X nL k n σ (pc + 1) loc (.int (x + y) :: rest)) : J wf X nL k n σ pc loc (.int y :: .int x :: rest) := by
  obtain ⟨p, l, e, R, s, m, args, below, meth, c, Q, D, A, tys⟩ := X
  obtain ⟨rfl, rfl, rfl, hx, hb, hml, ho, hts, hK, hA, e1, e2, e3, e4, hsp, hsz⟩ := C
  intro H locs ls hl hP hD hS
  exact lv_iadd hx hb hd (kk H locs ls hl hP hD hS)
theorem j_isub (C : JC X l0 D0 tt eE cc own nL Ts fr lo ce sl) {x y : Int32} (hd : decode cc pc = .ok (.isub, 1)) (kk : J wf X nL k n σ (pc + 1) loc (.int (x - y) :: rest)) : J wf X nL k n σ pc loc (.int y :: .int x :: rest) := by
  obtain ⟨p, l, e, R, s, m, args, below, meth, c, Q, D, A, tys⟩ := X
  obtain ⟨rfl, rfl, rfl, hx, hb, hml, ho, hts, hK, hA, e1, e2, e3, e4, hsp, hsz⟩ := C
  intro H locs ls hl hP hD hS
  exact lv_isub hx hb hd (kk H locs ls hl hP hD hS)
theorem j_imul (C : JC X l0 D0 tt eE cc own nL Ts fr lo ce sl) {x y : Int32} (hd : decode cc pc = .ok (.imul, 1)) (kk : J wf X nL k n σ (pc + 1) loc (.int (x * y) :: rest)) : J wf X nL k n σ pc loc (.int y :: .int x :: rest) := by
  obtain ⟨p, l, e, R, s, m, args, below, meth, c, Q, D, A, tys⟩ := X
  obtain ⟨rfl, rfl, rfl, hx, hb, hml, ho, hts, hK, hA, e1, e2, e3, e4, hsp, hsz⟩ := C
  intro H locs ls hl hP hD hS
  exact lv_imul hx hb hd (kk H locs ls hl hP hD hS)
theorem j_iand (C : JC X l0 D0 tt eE cc own nL Ts fr lo ce sl) {x y : Int32} (hd : decode cc pc = .ok (.iand, 1)) (kk : J wf X nL k n σ (pc + 1) loc (.int (x &&& y) :: rest)) : J wf X nL k n σ pc loc (.int y :: .int x :: rest) := by
  obtain ⟨p, l, e, R, s, m, args, below, meth, c, Q, D, A, tys⟩ := X
  obtain ⟨rfl, rfl, rfl, hx, hb, hml, ho, hts, hK, hA, e1, e2, e3, e4, hsp, hsz⟩ := C
  intro H locs ls hl hP hD hS
  exact lv_iand hx hb hd (kk H locs ls hl hP hD hS)
theorem j_ixor (C : JC X l0 D0 tt eE cc own nL Ts fr lo ce sl) {x y : Int32} (hd : decode cc pc = .ok (.ixor, 1)) (kk : J wf X nL k n σ (pc + 1) loc (.int (x ^^^ y) :: rest)) : J wf X nL k n σ pc loc (.int y :: .int x :: rest) := by
  obtain ⟨p, l, e, R, s, m, args, below, meth, c, Q, D, A, tys⟩ := X
  obtain ⟨rfl, rfl, rfl, hx, hb, hml, ho, hts, hK, hA, e1, e2, e3, e4, hsp, hsz⟩ := C
  intro H locs ls hl hP hD hS
  exact lv_ixor hx hb hd (kk H locs ls hl hP hD hS)
theorem j_ishr (C : JC X l0 D0 tt eE cc own nL Ts fr lo ce sl) {x y : Int32} (hd : decode cc pc = .ok (.ishr, 1)) (kk : J wf X nL k n σ (pc + 1) loc (.int (x >>> (y &&& 31)) :: rest)) : J wf X nL k n σ pc loc (.int y :: .int x :: rest) := by
  obtain ⟨p, l, e, R, s, m, args, below, meth, c, Q, D, A, tys⟩ := X
  obtain ⟨rfl, rfl, rfl, hx, hb, hml, ho, hts, hK, hA, e1, e2, e3, e4, hsp, hsz⟩ := C
  intro H locs ls hl hP hD hS
  exact lv_ishr hx hb hd (kk H locs ls hl hP hD hS)
theorem j_idiv (C : JC X l0 D0 tt eE cc own nL Ts fr lo ce sl) {x y : Int32} (hne : ¬ y = 0) (hd : decode cc pc = .ok (.idiv, 1)) (kk : J wf X nL k n σ (pc + 1) loc (.int (x / y) :: rest)) : J wf X nL k n σ pc loc (.int y :: .int x :: rest) := by
  obtain ⟨p, l, e, R, s, m, args, below, meth, c, Q, D, A, tys⟩ := X
  obtain ⟨rfl, rfl, rfl, hx, hb, hml, ho, hts, hK, hA, e1, e2, e3, e4, hsp, hsz⟩ := C
  intro H locs ls hl hP hD hS
  exact lv_idiv hx hb hd hne (kk H locs ls hl hP hD hS)
theorem j_irem (C : JC X l0 D0 tt eE cc own nL Ts fr lo ce sl) {x y : Int32} (hne : ¬ y = 0) (hd : decode cc pc = .ok (.irem, 1)) (kk : J wf X nL k n σ (pc + 1) loc (.int (imod x y) :: rest)) : J wf X nL k n σ pc loc (.int y :: .int x :: rest) := by
  obtain ⟨p, l, e, R, s, m, args, below, meth, c, Q, D, A, tys⟩ := X
  obtain ⟨rfl, rfl, rfl, hx, hb, hml, ho, hts, hK, hA, e1, e2, e3, e4, hsp, hsz⟩ := C
  intro H locs ls hl hP hD hS
  exact lv_irem hx hb hd hne (kk H locs ls hl hP hD hS)
theorem j_ineg (C : JC X l0 D0 tt eE cc own nL Ts fr lo ce sl) {x : Int32} (hd : decode cc pc = .ok (.ineg, 1)) (kk : J wf X nL k n σ (pc + 1) loc (.int (-x) :: rest)) : J wf X nL k n σ pc loc (.int x :: rest) := by
  obtain ⟨p, l, e, R, s, m, args, below, meth, c, Q, D, A, tys⟩ := X
  obtain ⟨rfl, rfl, rfl, hx, hb, hml, ho, hts, hK, hA, e1, e2, e3, e4, hsp, hsz⟩ := C
  intro H locs ls hl hP hD hS
  exact lv_ineg hx hb hd (kk H locs ls hl hP hD hS)
theorem j_lneg (C : JC X l0 D0 tt eE cc own nL Ts fr lo ce sl) {x : Int64} (hd : decode cc pc = .ok (.lneg, 1)) (kk : J wf X nL k n σ (pc + 1) loc (.long (-x) :: rest)) : J wf X nL k n σ pc loc (.long x :: rest) := by
  obtain ⟨p, l, e, R, s, m, args, below, meth, c, Q, D, A, tys⟩ := X
  obtain ⟨rfl, rfl, rfl, hx, hb, hml, ho, hts, hK, hA, e1, e2, e3, e4, hsp, hsz⟩ := C
  intro H locs ls hl hP hD hS
  exact lv_lneg hx hb hd (kk H locs ls hl hP hD hS)
theorem j_ladd (C : JC X l0 D0 tt eE cc own nL Ts fr lo ce sl) {x y : Int64} (hd : decode cc pc = .ok (.ladd, 1)) (kk : J wf X nL k n σ (pc + 1) loc (.long (x + y) :: rest)) : J wf X nL k n σ pc loc (.long y :: .long x :: rest) := by
  obtain ⟨p, l, e, R, s, m, args, below, meth, c, Q, D, A, tys⟩ := X
  obtain ⟨rfl, rfl, rfl, hx, hb, hml, ho, hts, hK, hA, e1, e2, e3, e4, hsp, hsz⟩ := C
  intro H locs ls hl hP hD hS
  exact lv_ladd hx hb hd (kk H locs ls hl hP hD hS)
theorem j_lsub (C : JC X l0 D0 tt eE cc own nL Ts fr lo ce sl) {x y : Int64} (hd : decode cc pc = .ok (.lsub, 1)) (kk : J wf X nL k n σ (pc + 1) loc (.long (x - y) :: rest)) : J wf X nL k n σ pc loc (.long y :: .long x :: rest) := by
  obtain ⟨p, l, e, R, s, m, args, below, meth, c, Q, D, A, tys⟩ := X
  obtain ⟨rfl, rfl, rfl, hx, hb, hml, ho, hts, hK, hA, e1, e2, e3, e4, hsp, hsz⟩ := C
  intro H locs ls hl hP hD hS
  exact lv_lsub hx hb hd (kk H locs ls hl hP hD hS)
theorem j_lmul (C : JC X l0 D0 tt eE cc own nL Ts fr lo ce sl) {x y : Int64} (hd : decode cc pc = .ok (.lmul, 1)) (kk : J wf X nL k n σ (pc + 1) loc (.long (x * y) :: rest)) : J wf X nL k n σ pc loc (.long y :: .long x :: rest) := by
  obtain ⟨p, l, e, R, s, m, args, below, meth, c, Q, D, A, tys⟩ := X
  obtain ⟨rfl, rfl, rfl, hx, hb, hml, ho, hts, hK, hA, e1, e2, e3, e4, hsp, hsz⟩ := C
  intro H locs ls hl hP hD hS
  exact lv_lmul hx hb hd (kk H locs ls hl hP hD hS)
theorem j_ldiv (C : JC X l0 D0 tt eE cc own nL Ts fr lo ce sl) {x y : Int64} (hne : ¬ y = 0) (hd : decode cc pc = .ok (.ldiv, 1)) (kk : J wf X nL k n σ (pc + 1) loc (.long (x / y) :: rest)) : J wf X nL k n σ pc loc (.long y :: .long x :: rest) := by
  obtain ⟨p, l, e, R, s, m, args, below, meth, c, Q, D, A, tys⟩ := X
  obtain ⟨rfl, rfl, rfl, hx, hb, hml, ho, hts, hK, hA, e1, e2, e3, e4, hsp, hsz⟩ := C
  intro H locs ls hl hP hD hS
  exact lv_ldiv hx hb hd hne (kk H locs ls hl hP hD hS)
theorem j_lcmp (C : JC X l0 D0 tt eE cc own nL Ts fr lo ce sl) {x y : Int64} (hd : decode cc pc = .ok (.lcmp, 1)) (kk : J wf X nL k n σ (pc + 1) loc (.int (lg_cmp x y) :: rest)) : J wf X nL k n σ pc loc (.long y :: .long x :: rest) := by
  obtain ⟨p, l, e, R, s, m, args, below, meth, c, Q, D, A, tys⟩ := X
  obtain ⟨rfl, rfl, rfl, hx, hb, hml, ho, hts, hK, hA, e1, e2, e3, e4, hsp, hsz⟩ := C
  intro H locs ls hl hP hD hS
  exact W.lcmp hx hb hd (kk H locs ls hl hP hD hS)
theorem j_i2l (C : JC X l0 D0 tt eE cc own nL Ts fr lo ce sl) {x : Int32} (hd : decode cc pc = .ok (.i2l, 1)) (kk : J wf X nL k n σ (pc + 1) loc (.long x.toInt64 :: rest)) : J wf X nL k n σ pc loc (.int x :: rest) := by
  obtain ⟨p, l, e, R, s, m, args, below, meth, c, Q, D, A, tys⟩ := X
  obtain ⟨rfl, rfl, rfl, hx, hb, hml, ho, hts, hK, hA, e1, e2, e3, e4, hsp, hsz⟩ := C
  intro H locs ls hl hP hD hS
  exact lv_i2l hx hb hd rfl (kk H locs ls hl hP hD hS)
theorem j_l2i (C : JC X l0 D0 tt eE cc own nL Ts fr lo ce sl) {x : Int64} (hd : decode cc pc = .ok (.l2i, 1)) (kk : J wf X nL k n σ (pc + 1) loc (.int x.toInt32 :: rest)) : J wf X nL k n σ pc loc (.long x :: rest) := by
  obtain ⟨p, l, e, R, s, m, args, below, meth, c, Q, D, A, tys⟩ := X
  obtain ⟨rfl, rfl, rfl, hx, hb, hml, ho, hts, hK, hA, e1, e2, e3, e4, hsp, hsz⟩ := C
  intro H locs ls hl hP hD hS
  exact lv_l2i hx hb hd rfl (kk H locs ls hl hP hD hS)
def ushr (x y : Int32) : Int32 := (x.toUInt32 >>> (y.toUInt32 &&& Int32.toUInt32 31)).toInt32
theorem j_iushr (C : JC X l0 D0 tt eE cc own nL Ts fr lo ce sl) {x y : Int32} (hd : decode cc pc = .ok (.iushr, 1)) (kk : J wf X nL k n σ (pc + 1) loc (.int (ushr x y) :: rest)) : J wf X nL k n σ pc loc (.int y :: .int x :: rest) := by
  obtain ⟨p, l, e, R, s, m, args, below, meth, c, Q, D, A, tys⟩ := X
  obtain ⟨rfl, rfl, rfl, hx, hb, hml, ho, hts, hK, hA, e1, e2, e3, e4, hsp, hsz⟩ := C
  intro H locs ls hl hP hD hS
  exact lv_iushr hx hb hd rfl (kk H locs ls hl hP hD hS)
theorem j_dup (C : JC X l0 D0 tt eE cc own nL Ts fr lo ce sl) {va : Value} (ha : va.category = 1) (hd : decode cc pc = .ok (.dup, 1)) (kk : J wf X nL k n σ (pc + 1) loc (va :: va :: rest)) : J wf X nL k n σ pc loc (va :: rest) := by
  obtain ⟨p, l, e, R, s, m, args, below, meth, c, Q, D, A, tys⟩ := X
  obtain ⟨rfl, rfl, rfl, hx, hb, hml, ho, hts, hK, hA, e1, e2, e3, e4, hsp, hsz⟩ := C
  intro H locs ls hl hP hD hS
  exact lv_dup hx hb hd ha (kk H locs ls hl hP hD hS)
theorem j_pop (C : JC X l0 D0 tt eE cc own nL Ts fr lo ce sl) {va : Value} (ha : va.category = 1) (hd : decode cc pc = .ok (.pop, 1)) (kk : J wf X nL k n σ (pc + 1) loc (rest)) : J wf X nL k n σ pc loc (va :: rest) := by
  obtain ⟨p, l, e, R, s, m, args, below, meth, c, Q, D, A, tys⟩ := X
  obtain ⟨rfl, rfl, rfl, hx, hb, hml, ho, hts, hK, hA, e1, e2, e3, e4, hsp, hsz⟩ := C
  intro H locs ls hl hP hD hS
  exact lv_pop hx hb hd ha (kk H locs ls hl hP hD hS)
theorem j_dup_x1 (C : JC X l0 D0 tt eE cc own nL Ts fr lo ce sl) {va vb : Value} (ha : va.category = 1) (hb2 : vb.category = 1) (hd : decode cc pc = .ok (.dup_x1, 1)) (kk : J wf X nL k n σ (pc + 1) loc (va :: vb :: va :: rest)) : J wf X nL k n σ pc loc (va :: vb :: rest) := by
  obtain ⟨p, l, e, R, s, m, args, below, meth, c, Q, D, A, tys⟩ := X
  obtain ⟨rfl, rfl, rfl, hx, hb, hml, ho, hts, hK, hA, e1, e2, e3, e4, hsp, hsz⟩ := C
  intro H locs ls hl hP hD hS
  exact lv_dup_x1 hx hb hd ha hb2 (kk H locs ls hl hP hD hS)
theorem j_dup_x2 (C : JC X l0 D0 tt eE cc own nL Ts fr lo ce sl) {va vb vc : Value} (ha : va.category = 1) (hb2 : vb.category = 1) (hc2 : vc.category = 1) (hd : decode cc pc = .ok (.dup_x2, 1)) (kk : J wf X nL k n σ (pc + 1) loc (va :: vb :: vc :: va :: rest)) : J wf X nL k n σ pc loc (va :: vb :: vc :: rest) := by
  obtain ⟨p, l, e, R, s, m, args, below, meth, c, Q, D, A, tys⟩ := X
  obtain ⟨rfl, rfl, rfl, hx, hb, hml, ho, hts, hK, hA, e1, e2, e3, e4, hsp, hsz⟩ := C
  intro H locs ls hl hP hD hS
  exact lv_dup_x2 hx hb hd ha hb2 hc2 (kk H locs ls hl hP hD hS)
theorem j_dup2 (C : JC X l0 D0 tt eE cc own nL Ts fr lo ce sl) {va vb : Value} (ha : va.category = 1) (hb2 : vb.category = 1) (hd : decode cc pc = .ok (.dup2, 1)) (kk : J wf X nL k n σ (pc + 1) loc (va :: vb :: va :: vb :: rest)) : J wf X nL k n σ pc loc (va :: vb :: rest) := by
  obtain ⟨p, l, e, R, s, m, args, below, meth, c, Q, D, A, tys⟩ := X
  obtain ⟨rfl, rfl, rfl, hx, hb, hml, ho, hts, hK, hA, e1, e2, e3, e4, hsp, hsz⟩ := C
  intro H locs ls hl hP hD hS
  exact lv_dup2_11 hx hb hd ha hb2 (kk H locs ls hl hP hD hS)
theorem j_dup2_2 (C : JC X l0 D0 tt eE cc own nL Ts fr lo ce sl) {va : Value} (ha : va.category = 2) (hd : decode cc pc = .ok (.dup2, 1)) (kk : J wf X nL k n σ (pc + 1) loc (va :: va :: rest)) : J wf X nL k n σ pc loc (va :: rest) := by
  obtain ⟨p, l, e, R, s, m, args, below, meth, c, Q, D, A, tys⟩ := X
  obtain ⟨rfl, rfl, rfl, hx, hb, hml, ho, hts, hK, hA, e1, e2, e3, e4, hsp, hsz⟩ := C
  intro H locs ls hl hP hD hS
  exact lv_dup2_2 hx hb hd ha (kk H locs ls hl hP hD hS)
theorem j_if_eq (C : JC X l0 D0 tt eE cc own nL Ts fr lo ce sl) {x : Int32} {off : Int} {tgt : Nat} (hd : decode cc pc = .ok (.ifCond .eq off, 3)) (ht : (pc : Int) + off = (tgt : Int)) (kt : x = 0 → J wf X nL k n σ tgt loc rest) (kf : ¬ x = 0 → J wf X nL k n σ (pc + 3) loc rest) : J wf X nL k n σ pc loc (.int x :: rest) := by
  obtain ⟨p, l, e, R, s, m, args, below, meth, c, Q, D, A, tys⟩ := X
  obtain ⟨rfl, rfl, rfl, hx, hb, hml, ho, hts, hK, hA, e1, e2, e3, e4, hsp, hsz⟩ := C
  intro H locs ls hl hP hD hS
  exact lv_if_eq hx hb hd ht (fun h => kt h H locs ls hl hP hD hS) (fun h => kf h H locs ls hl hP hD hS)
theorem j_icmp_eq (C : JC X l0 D0 tt eE cc own nL Ts fr lo ce sl) {x y : Int32} {off : Int} {tgt : Nat} (hd : decode cc pc = .ok (.if_icmp .eq off, 3)) (ht : (pc : Int) + off = (tgt : Int)) (kt : x = y → J wf X nL k n σ tgt loc rest) (kf : ¬ x = y → J wf X nL k n σ (pc + 3) loc rest) : J wf X nL k n σ pc loc (.int y :: .int x :: rest) := by
  obtain ⟨p, l, e, R, s, m, args, below, meth, c, Q, D, A, tys⟩ := X
  obtain ⟨rfl, rfl, rfl, hx, hb, hml, ho, hts, hK, hA, e1, e2, e3, e4, hsp, hsz⟩ := C
  intro H locs ls hl hP hD hS
  exact lv_icmp_eq hx hb hd ht (fun h => kt h H locs ls hl hP hD hS) (fun h => kf h H locs ls hl hP hD hS)
theorem j_if_ne (C : JC X l0 D0 tt eE cc own nL Ts fr lo ce sl) {x : Int32} {off : Int} {tgt : Nat} (hd : decode cc pc = .ok (.ifCond .ne off, 3)) (ht : (pc : Int) + off = (tgt : Int)) (kt : ¬ x = 0 → J wf X nL k n σ tgt loc rest) (kf : x = 0 → J wf X nL k n σ (pc + 3) loc rest) : J wf X nL k n σ pc loc (.int x :: rest) := by
  obtain ⟨p, l, e, R, s, m, args, below, meth, c, Q, D, A, tys⟩ := X
  obtain ⟨rfl, rfl, rfl, hx, hb, hml, ho, hts, hK, hA, e1, e2, e3, e4, hsp, hsz⟩ := C
  intro H locs ls hl hP hD hS
  exact lv_if_ne hx hb hd ht (fun h => kt h H locs ls hl hP hD hS) (fun h => kf h H locs ls hl hP hD hS)
theorem j_icmp_ne (C : JC X l0 D0 tt eE cc own nL Ts fr lo ce sl) {x y : Int32} {off : Int} {tgt : Nat} (hd : decode cc pc = .ok (.if_icmp .ne off, 3)) (ht : (pc : Int) + off = (tgt : Int)) (kt : ¬ x = y → J wf X nL k n σ tgt loc rest) (kf : x = y → J wf X nL k n σ (pc + 3) loc rest) : J wf X nL k n σ pc loc (.int y :: .int x :: rest) := by
  obtain ⟨p, l, e, R, s, m, args, below, meth, c, Q, D, A, tys⟩ := X
  obtain ⟨rfl, rfl, rfl, hx, hb, hml, ho, hts, hK, hA, e1, e2, e3, e4, hsp, hsz⟩ := C
  intro H locs ls hl hP hD hS
  exact lv_icmp_ne hx hb hd ht (fun h => kt h H locs ls hl hP hD hS) (fun h => kf h H locs ls hl hP hD hS)
theorem j_if_lt (C : JC X l0 D0 tt eE cc own nL Ts fr lo ce sl) {x : Int32} {off : Int} {tgt : Nat} (hd : decode cc pc = .ok (.ifCond .lt off, 3)) (ht : (pc : Int) + off = (tgt : Int)) (kt : x < 0 → J wf X nL k n σ tgt loc rest) (kf : ¬ x < 0 → J wf X nL k n σ (pc + 3) loc rest) : J wf X nL k n σ pc loc (.int x :: rest) := by
  obtain ⟨p, l, e, R, s, m, args, below, meth, c, Q, D, A, tys⟩ := X
  obtain ⟨rfl, rfl, rfl, hx, hb, hml, ho, hts, hK, hA, e1, e2, e3, e4, hsp, hsz⟩ := C
  intro H locs ls hl hP hD hS
  exact lv_if_lt hx hb hd ht (fun h => kt h H locs ls hl hP hD hS) (fun h => kf h H locs ls hl hP hD hS)
theorem j_icmp_lt (C : JC X l0 D0 tt eE cc own nL Ts fr lo ce sl) {x y : Int32} {off : Int} {tgt : Nat} (hd : decode cc pc = .ok (.if_icmp .lt off, 3)) (ht : (pc : Int) + off = (tgt : Int)) (kt : x < y → J wf X nL k n σ tgt loc rest) (kf : ¬ x < y → J wf X nL k n σ (pc + 3) loc rest) : J wf X nL k n σ pc loc (.int y :: .int x :: rest) := by
  obtain ⟨p, l, e, R, s, m, args, below, meth, c, Q, D, A, tys⟩ := X
  obtain ⟨rfl, rfl, rfl, hx, hb, hml, ho, hts, hK, hA, e1, e2, e3, e4, hsp, hsz⟩ := C
  intro H locs ls hl hP hD hS
  exact lv_icmp_lt hx hb hd ht (fun h => kt h H locs ls hl hP hD hS) (fun h => kf h H locs ls hl hP hD hS)
theorem j_if_ge (C : JC X l0 D0 tt eE cc own nL Ts fr lo ce sl) {x : Int32} {off : Int} {tgt : Nat} (hd : decode cc pc = .ok (.ifCond .ge off, 3)) (ht : (pc : Int) + off = (tgt : Int)) (kt : 0 ≤ x → J wf X nL k n σ tgt loc rest) (kf : ¬ 0 ≤ x → J wf X nL k n σ (pc + 3) loc rest) : J wf X nL k n σ pc loc (.int x :: rest) := by
  obtain ⟨p, l, e, R, s, m, args, below, meth, c, Q, D, A, tys⟩ := X
  obtain ⟨rfl, rfl, rfl, hx, hb, hml, ho, hts, hK, hA, e1, e2, e3, e4, hsp, hsz⟩ := C
  intro H locs ls hl hP hD hS
  exact lv_if_ge hx hb hd ht (fun h => kt h H locs ls hl hP hD hS) (fun h => kf h H locs ls hl hP hD hS)
theorem j_icmp_ge (C : JC X l0 D0 tt eE cc own nL Ts fr lo ce sl) {x y : Int32} {off : Int} {tgt : Nat} (hd : decode cc pc = .ok (.if_icmp .ge off, 3)) (ht : (pc : Int) + off = (tgt : Int)) (kt : y ≤ x → J wf X nL k n σ tgt loc rest) (kf : ¬ y ≤ x → J wf X nL k n σ (pc + 3) loc rest) : J wf X nL k n σ pc loc (.int y :: .int x :: rest) := by
  obtain ⟨p, l, e, R, s, m, args, below, meth, c, Q, D, A, tys⟩ := X
  obtain ⟨rfl, rfl, rfl, hx, hb, hml, ho, hts, hK, hA, e1, e2, e3, e4, hsp, hsz⟩ := C
  intro H locs ls hl hP hD hS
  exact lv_icmp_ge hx hb hd ht (fun h => kt h H locs ls hl hP hD hS) (fun h => kf h H locs ls hl hP hD hS)
theorem j_if_gt (C : JC X l0 D0 tt eE cc own nL Ts fr lo ce sl) {x : Int32} {off : Int} {tgt : Nat} (hd : decode cc pc = .ok (.ifCond .gt off, 3)) (ht : (pc : Int) + off = (tgt : Int)) (kt : 0 < x → J wf X nL k n σ tgt loc rest) (kf : ¬ 0 < x → J wf X nL k n σ (pc + 3) loc rest) : J wf X nL k n σ pc loc (.int x :: rest) := by
  obtain ⟨p, l, e, R, s, m, args, below, meth, c, Q, D, A, tys⟩ := X
  obtain ⟨rfl, rfl, rfl, hx, hb, hml, ho, hts, hK, hA, e1, e2, e3, e4, hsp, hsz⟩ := C
  intro H locs ls hl hP hD hS
  exact lv_if_gt hx hb hd ht (fun h => kt h H locs ls hl hP hD hS) (fun h => kf h H locs ls hl hP hD hS)
theorem j_icmp_gt (C : JC X l0 D0 tt eE cc own nL Ts fr lo ce sl) {x y : Int32} {off : Int} {tgt : Nat} (hd : decode cc pc = .ok (.if_icmp .gt off, 3)) (ht : (pc : Int) + off = (tgt : Int)) (kt : y < x → J wf X nL k n σ tgt loc rest) (kf : ¬ y < x → J wf X nL k n σ (pc + 3) loc rest) : J wf X nL k n σ pc loc (.int y :: .int x :: rest) := by
  obtain ⟨p, l, e, R, s, m, args, below, meth, c, Q, D, A, tys⟩ := X
  obtain ⟨rfl, rfl, rfl, hx, hb, hml, ho, hts, hK, hA, e1, e2, e3, e4, hsp, hsz⟩ := C
  intro H locs ls hl hP hD hS
  exact lv_icmp_gt hx hb hd ht (fun h => kt h H locs ls hl hP hD hS) (fun h => kf h H locs ls hl hP hD hS)
theorem j_if_le (C : JC X l0 D0 tt eE cc own nL Ts fr lo ce sl) {x : Int32} {off : Int} {tgt : Nat} (hd : decode cc pc = .ok (.ifCond .le off, 3)) (ht : (pc : Int) + off = (tgt : Int)) (kt : x ≤ 0 → J wf X nL k n σ tgt loc rest) (kf : ¬ x ≤ 0 → J wf X nL k n σ (pc + 3) loc rest) : J wf X nL k n σ pc loc (.int x :: rest) := by
  obtain ⟨p, l, e, R, s, m, args, below, meth, c, Q, D, A, tys⟩ := X
  obtain ⟨rfl, rfl, rfl, hx, hb, hml, ho, hts, hK, hA, e1, e2, e3, e4, hsp, hsz⟩ := C
  intro H locs ls hl hP hD hS
  exact lv_if_le hx hb hd ht (fun h => kt h H locs ls hl hP hD hS) (fun h => kf h H locs ls hl hP hD hS)
theorem j_icmp_le (C : JC X l0 D0 tt eE cc own nL Ts fr lo ce sl) {x y : Int32} {off : Int} {tgt : Nat} (hd : decode cc pc = .ok (.if_icmp .le off, 3)) (ht : (pc : Int) + off = (tgt : Int)) (kt : x ≤ y → J wf X nL k n σ tgt loc rest) (kf : ¬ x ≤ y → J wf X nL k n σ (pc + 3) loc rest) : J wf X nL k n σ pc loc (.int y :: .int x :: rest) := by
  obtain ⟨p, l, e, R, s, m, args, below, meth, c, Q, D, A, tys⟩ := X
  obtain ⟨rfl, rfl, rfl, hx, hb, hml, ho, hts, hK, hA, e1, e2, e3, e4, hsp, hsz⟩ := C
  intro H locs ls hl hP hD hS
  exact lv_icmp_le hx hb hd ht (fun h => kt h H locs ls hl hP hD hS) (fun h => kf h H locs ls hl hP hD hS)
theorem j_goto (C : JC X l0 D0 tt eE cc own nL Ts fr lo ce sl) {off : Int} {tgt : Nat} (hd : decode cc pc = .ok (.goto off, 3)) (ht : (pc : Int) + off = (tgt : Int)) (kk : J wf X nL k n σ tgt loc rest) : J wf X nL k n σ pc loc rest := by
  obtain ⟨p, l, e, R, s, m, args, below, meth, c, Q, D, A, tys⟩ := X
  obtain ⟨rfl, rfl, rfl, hx, hb, hml, ho, hts, hK, hA, e1, e2, e3, e4, hsp, hsz⟩ := C
  intro H locs ls hl hP hD hS
  exact lv_goto hx hb hd ht (kk H locs ls hl hP hD hS)
theorem j_tableIn (C : JC X l0 D0 tt eE cc own nL Ts fr lo ce sl) {df a b : Int} {offs : Array Int} {len : Nat} {x : Int32} {off : Int} {tgt : Nat} (hd : decode cc pc = .ok (.tableswitch df a b offs, len)) (h1 : ¬ x.toInt < a) (h2 : ¬ b < x.toInt) (h3 : offs[(x.toInt - a).toNat]? = some off) (ht : (pc : Int) + off = (tgt : Int)) (kk : J wf X nL k n σ tgt loc rest) : J wf X nL k n σ pc loc (.int x :: rest) := by
  obtain ⟨p, l, e, R, s, m, args, below, meth, c, Q, D, A, tys⟩ := X
  obtain ⟨rfl, rfl, rfl, hx, hb, hml, ho, hts, hK, hA, e1, e2, e3, e4, hsp, hsz⟩ := C
  intro H locs ls hl hP hD hS
  exact lv_tableIn hx hb hd h1 h2 h3 ht (kk H locs ls hl hP hD hS)
theorem j_tableOut (C : JC X l0 D0 tt eE cc own nL Ts fr lo ce sl) {df a b : Int} {offs : Array Int} {len : Nat} {x : Int32} {tgt : Nat} (hd : decode cc pc = .ok (.tableswitch df a b offs, len)) (h1 : x.toInt < a ∨ b < x.toInt) (ht : (pc : Int) + df = (tgt : Int)) (kk : J wf X nL k n σ tgt loc rest) : J wf X nL k n σ pc loc (.int x :: rest) := by
  obtain ⟨p, l, e, R, s, m, args, below, meth, c, Q, D, A, tys⟩ := X
  obtain ⟨rfl, rfl, rfl, hx, hb, hml, ho, hts, hK, hA, e1, e2, e3, e4, hsp, hsz⟩ := C
  intro H locs ls hl hP hD hS
  exact lv_tableOut hx hb hd h1 ht (kk H locs ls hl hP hD hS)
end JROWS
/-! contracts over an abstract state -/
def QS {S : Type} (wf : S → va_W) (D : va_G) (tys : List (ClassId × FieldType)) (A : Nat → Prop) (P : Option Value → S → Prop) : Array Value → State → Outcome → State → Prop := fun _ st oc t => (∃ (v : Option Value) (σ' : S), oc = .returned v ∧ P v σ' ∧ va_P D vwCl (wf σ') t.heap ∧ va_K D vwCl tys t ∧ va_D A (wf σ')) ∧ va_F A st t
def PS {S : Type} (wf : S → va_W) (D : va_G) (tys : List (ClassId × FieldType)) (eE : Nat × Nat) (sz : Nat) (av : List Value) (σ : S) : Array Value → State → Prop := va_Pc av (fun U => va_P D vwCl (wf σ) U.heap ∧ va_K D vwCl tys U ∧ va_D (fun _ => True) (wf σ) ∧ U.heap.size = sz ∧ SPh U ∧ SZ eE (va_A (wf σ) sz) U U.heap)
def MS {S : Type} (l : Launch) (y : MethodName) (ws : List Cond) (fr lo mc ms : Nat) (wf : S → va_W) (D : va_G) (tys : List (ClassId × FieldType)) (eE : Nat × Nat) (av : List Value) (σ : S) (P : Option Value → S → Prop) : Prop := ∀ sz : Nat, Met l y ws { frames := fr, cells := mc, slots := ms, locals := lo } (PS wf D tys eE sz av σ) (QS wf D tys (va_A (wf σ) sz) P) mc ms (va_A (wf σ) sz)
def JR {S : Type} (X : JX) (wf : S → va_W) (mc ms : Nat) (P : Option Value → S → Prop) (ret : Option FieldType) (mn : String) : Prop := match X with
  | (_, _, _, _, s, _, args, below, meth, _, Q, D, A, tys) => Q = MQ below (QS wf D tys A P) args s mc ms A ∧ meth.sig.returnType = ret ∧ meth.locks = false ∧ meth.name = mn
def PI {S : Type} (r : Int32) (σ : S) : Option Value → S → Prop := fun v σ' => v = some (.int r) ∧ σ' = σ
def PL {S : Type} (r : Int64) (σ : S) : Option Value → S → Prop := fun v σ' => v = some (.long r) ∧ σ' = σ
def PA {S : Type} (r : Nat) (σ : S) : Option Value → S → Prop := fun v σ' => v = some (.ref r) ∧ σ' = σ
def PV {S : Type} (σ : S) : Option Value → S → Prop := fun v σ' => v = none ∧ σ' = σ
/-- a cell is read, a cell is written: its place in the world is not named -/
def Rd (w : va_W) (a : Nat) (e : va_E) : Prop := ∃ q : Nat, w[q]? = some (a, e)
def Wr (w : va_W) (a : Nat) (e e' : va_E) (w' : va_W) : Prop := ∀ A : Nat → Prop, va_D A w → ∃ q : Nat, w[q]? = some (a, e) ∧ w.set q (a, e') = w'
theorem MS.of {S : Type} {l : Launch} {y : MethodName} {ws ws' : List Cond} {fr lo mc ms : Nat} {wf : S → va_W} {D : va_G} {tys : List (ClassId × FieldType)} {eE : Nat × Nat} {av : List Value} {σ : S} {P : Option Value → S → Prop} {cc : ByteArray} {maxL : Nat} {ret : Option FieldType} {loc : List (Nat × Value)} (hy : plainName y.cls = true) (hw : ws = Cond.code y cc maxL ret :: ws') (hlen : (lg_sl av).length ≤ maxL) (hloc : lv_args 0 av = loc)
    (body : ∀ X : JX, JC X l D tys eE cc y.cls maxL ws fr lo mc ms → JR X wf mc ms P ret y.name → J wf X maxL 0 0 σ 0 loc []) : MS l y ws fr lo mc ms wf D tys eE av σ P := by
  intro sz
  refine Met.ofW hy hw ?_
  intro p e s m args below meth c s₁ B hml hv
  obtain ⟨rfl, hP, hK, hD0, hsz, hsp, hZ⟩ := hv
  subst hsz
  have hJ := body (p, l, e, (headSpec ws { frames := fr, cells := mc, slots := ms, locals := lo }).room, s, m, _, below, meth, c, _, D, va_A (wf σ) s.heap.size, tys) ⟨rfl, rfl, rfl, B.exec, B.bytes, hml, findClass_of_methodNamed B.named, atoms_spec (ws := ws) B.pre, hK, fun q h => Or.inr h, rfl, rfl, rfl, rfl, hsp, hZ⟩ ⟨rfl, B.returns, B.notSynchronized, (name_of_methodNamed B.named B.method).1⟩
  rw [lg_entry_eq]
  subst hloc
  exact hJ s.heap [] _ (lv_entry av hlen) hP hD0.self va_S.rf
section JHEAP
variable {S : Type} {wf : S → va_W} {X : JX} {l0 : Launch} {D0 : va_G} {tt : List (ClassId × FieldType)} {eE : Nat × Nat} {cc : ByteArray} {own : String} {nL : Nat} {Ts : List Cond} {fr lo ce sl k n : Nat} {σ σ' : S} {pc : Nat} {loc loc' : List (Nat × Value)} {st rest : List Value}
variable {mc ms : Nat} {P : Option Value → S → Prop} {mn : String}
theorem j_iret (C : JC X l0 D0 tt eE cc own nL Ts fr lo ce sl) (Rt : JR X wf mc ms P (some .int) mn) {v : Int32} (h1 : k ≤ mc) (h2 : n ≤ ms) (hd : decode cc pc = .ok (.ireturn, 1)) (hQ : P (some (.int v)) σ) : J wf X nL k n σ pc loc [.int v] := by
  obtain ⟨p, l, e, R, s, m, args, below, meth, c, Q, D, A, tys⟩ := X
  obtain ⟨rfl, rfl, rfl, hx, hb, hml, ho, hts, hK, hA, e1, e2, e3, e4, hsp, hsz⟩ := C
  intro H locs ls hl hP hD hS
  obtain ⟨rfl, hret, hlk, hmn⟩ := Rt
  exact W.widen h1 h2 (W.iret hx hb hret (fun t ht hW => ⟨⟨_, σ, rfl, hQ, by rw [ht]; exact hP, va_K.moved hW.alike hK, hD⟩, hS.F ht⟩) hS.2.2 hd hlk)
theorem j_lret (C : JC X l0 D0 tt eE cc own nL Ts fr lo ce sl) (Rt : JR X wf mc ms P (some .long) mn) {v : Int64} (h1 : k ≤ mc) (h2 : n ≤ ms) (hd : decode cc pc = .ok (.lreturn, 1)) (hQ : P (some (.long v)) σ) : J wf X nL k n σ pc loc [.long v] := by
  obtain ⟨p, l, e, R, s, m, args, below, meth, c, Q, D, A, tys⟩ := X
  obtain ⟨rfl, rfl, rfl, hx, hb, hml, ho, hts, hK, hA, e1, e2, e3, e4, hsp, hsz⟩ := C
  intro H locs ls hl hP hD hS
  obtain ⟨rfl, hret, hlk, hmn⟩ := Rt
  exact W.widen h1 h2 (W.lret hx hb hret (fun t ht hW => ⟨⟨_, σ, rfl, hQ, by rw [ht]; exact hP, va_K.moved hW.alike hK, hD⟩, hS.F ht⟩) hS.2.2 hd hlk)
theorem j_zret (C : JC X l0 D0 tt eE cc own nL Ts fr lo ce sl) (Rt : JR X wf mc ms P (some .boolean) mn) {v : Int32} (hz : v = 0 ∨ v = 1) (h1 : k ≤ mc) (h2 : n ≤ ms) (hd : decode cc pc = .ok (.ireturn, 1)) (hQ : P (some (.int v)) σ) : J wf X nL k n σ pc loc [.int v] := by
  obtain ⟨p, l, e, R, s, m, args, below, meth, c, Q, D, A, tys⟩ := X
  obtain ⟨rfl, rfl, rfl, hx, hb, hml, ho, hts, hK, hA, e1, e2, e3, e4, hsp, hsz⟩ := C
  intro H locs ls hl hP hD hS
  obtain ⟨rfl, hret, hlk, hmn⟩ := Rt
  exact W.widen h1 h2 (W.zret hx hb hret (by rcases hz with rfl | rfl <;> rfl) (fun t ht hW => ⟨⟨_, σ, rfl, hQ, by rw [ht]; exact hP, va_K.moved hW.alike hK, hD⟩, hS.F ht⟩) hS.2.2 hd hlk)
theorem j_vret (C : JC X l0 D0 tt eE cc own nL Ts fr lo ce sl) (Rt : JR X wf mc ms P none mn) (h1 : k ≤ mc) (h2 : n ≤ ms) (hd : decode cc pc = .ok (.return_, 1)) (hQ : P none σ) : J wf X nL k n σ pc loc [] := by
  obtain ⟨p, l, e, R, s, m, args, below, meth, c, Q, D, A, tys⟩ := X
  obtain ⟨rfl, rfl, rfl, hx, hb, hml, ho, hts, hK, hA, e1, e2, e3, e4, hsp, hsz⟩ := C
  intro H locs ls hl hP hD hS
  obtain ⟨rfl, hret, hlk, hmn⟩ := Rt
  exact W.widen h1 h2 (W.vret hx hb hret (fun t ht hW => ⟨⟨_, σ, rfl, hQ, by rw [ht]; exact hP, va_K.moved hW.alike hK, hD⟩, hS.F ht⟩) hS.2.2 hd hlk)
theorem j_aret (C : JC X l0 D0 tt eE cc own nL Ts fr lo ce sl) {rt : FieldType} (Rt : JR X wf mc ms P (some rt) mn) (hrt : (∃ c, rt = .object c) ∨ ∃ t, rt = .array t) {v : Nat} (h1 : k ≤ mc) (h2 : n ≤ ms) (hd : decode cc pc = .ok (.areturn, 1)) (hQ : P (some (.ref v)) σ) : J wf X nL k n σ pc loc [.ref v] := by
  obtain ⟨p, l, e, R, s, m, args, below, meth, c, Q, D, A, tys⟩ := X
  obtain ⟨rfl, rfl, rfl, hx, hb, hml, ho, hts, hK, hA, e1, e2, e3, e4, hsp, hsz⟩ := C
  intro H locs ls hl hP hD hS
  obtain ⟨rfl, hret, hlk, hmn⟩ := Rt
  exact W.widen h1 h2 (W.aret hx hb hret hrt (Or.inr ⟨v, rfl⟩) (fun t ht hW => ⟨⟨_, σ, rfl, hQ, by rw [ht]; exact hP, va_K.moved hW.alike hK, hD⟩, hS.F ht⟩) hS.2.2 hd hlk)
theorem j_get (C : JC X l0 D0 tt eE cc own nL Ts fr lo ce sl) {a ci ix j N : Nat} {ref Cn : String} {T : u_T} {fs : List Value} {v : Value} (hin : ∀ w ∈ u_ws Cn T N, w ∈ Ts) (hr : Rd (wf σ) a (.inr (ci, fs))) (hc : vwCl[ci]? = some (Cn, T, N)) (hj : j < N) (hw : Cond.fieldLink own ix ref (T j).2.1 (T j).2.2.1 ∈ Ts) (hs : (T j).1 = ref ∨ Cond.sameField ref (T j).1 (T j).2.1 (T j).2.2.1 ∈ Ts) (hv : fs[j]? = some v) (hd : decode cc pc = .ok (.getfield ix, 3)) (kk : J wf X nL k n σ (pc + 3) loc (v :: rest)) : J wf X nL k n σ pc loc (.ref a :: rest) := by
  obtain ⟨p, l, e, R, s, m, args, below, meth, c, Q, D, A, tys⟩ := X
  obtain ⟨rfl, rfl, rfl, hx, hb, hml, ho, hts, hK, hA, e1, e2, e3, e4, hsp, hsz⟩ := C
  intro H locs ls hl hP hD hS
  obtain ⟨q0, hq⟩ := hr
  exact va_get hx hb hts hin ho hK hP q0 hq hc j hj (hts _ hw) (fun x h => by
    rcases hs with hs | hs
    · rw [← hs]; exact h
    · exact u_same (hts _ hs) x h) hv hd (kk H locs ls hl hP hD hS)
theorem j_put (C : JC X l0 D0 tt eE cc own nL Ts fr lo ce sl) {a ci ix j N : Nat} {ref Cn : String} {T : u_T} {fs : List Value} {v : Value} {ty : FieldType} {ty0 : Nat → FieldType} (hin : ∀ w ∈ u_ws Cn T N, w ∈ Ts) (hty : ∀ k, k < N → parseFieldDescriptor (T k).2.2.1 = some (ty0 k)) (hnm : ∀ a, a < N → ∀ b, b < N → a ≠ b → (T a).2.1 ≠ (T b).2.1) (hr : Wr (wf σ) a (.inr (ci, fs)) (.inr (ci, fs.set j v)) (wf σ')) (hc : vwCl[ci]? = some (Cn, T, N)) (hj : j < N) (hw : Cond.fieldLink own ix ref (T j).2.1 (T j).2.2.1 ∈ Ts) (hs : (T j).1 = ref ∨ Cond.sameField ref (T j).1 (T j).2.1 (T j).2.2.1 ∈ Ts) (hfin : (T j).2.2.2 = false) (hpd : parseFieldDescriptor (T j).2.2.1 = some ty) (hna : narrow ty v = v) (hfit : fits ty v = true) (hlen : j < fs.length) (hd : decode cc pc = .ok (.putfield ix, 3)) (kk : J wf X nL k n σ' (pc + 3) loc rest) : J wf X nL k n σ pc loc (v :: .ref a :: rest) := by
  obtain ⟨p, l, e, R, s, m, args, below, meth, c, Q, D, A, tys⟩ := X
  obtain ⟨rfl, rfl, rfl, hx, hb, hml, ho, hts, hK, hA, e1, e2, e3, e4, hsp, hsz⟩ := C
  intro H locs ls hl hP hD hS
  obtain ⟨q0, hq, hset⟩ := hr _ hD
  exact va_put hx hb hts hin ty0 hty hnm ho hK hP hD hS q0 hq hc j hj (hts _ hw) (fun x h => by
    rcases hs with hs | hs
    · rw [← hs]; exact h
    · exact u_same (hts _ hs) x h) hfin hpd hna hfit hlen hd (fun H1 locs1 hP1 hD1 hS1 => kk H1 locs1 ls hl (by rw [← hset]; exact hP1) (by rw [← hset]; exact hD1) hS1)
theorem j_iald (C : JC X l0 D0 tt eE cc own nL Ts fr lo ce sl) {a N : Nat} {cA : ClassId} {f : Nat → Int32} {i : Int32} (t0 : Nat) (hr : Rd (wf σ) a (.inl (cA, N, .inl f))) (ht : tt[t0]? = some (cA, .int)) (hin : ¬ (i < 0 ∨ N ≤ i.toNatClampNeg)) (hd : decode cc pc = .ok (.iaload, 1)) (kk : J wf X nL k n σ (pc + 1) loc (.int (f i.toNatClampNeg) :: rest)) : J wf X nL k n σ pc loc (.int i :: .ref a :: rest) := by
  obtain ⟨p, l, e, R, s, m, args, below, meth, c, Q, D, A, tys⟩ := X
  obtain ⟨rfl, rfl, rfl, hx, hb, hml, ho, hts, hK, hA, e1, e2, e3, e4, hsp, hsz⟩ := C
  intro H locs ls hl hP hD hS
  obtain ⟨q0, hq⟩ := hr
  exact va_iald hx hb hK hP q0 t0 hq ht hin hd (kk H locs ls hl hP hD hS)
theorem j_zald (C : JC X l0 D0 tt eE cc own nL Ts fr lo ce sl) {a N : Nat} {cA : ClassId} {f : Nat → Int32} {i : Int32} (t0 : Nat) (hr : Rd (wf σ) a (.inl (cA, N, .inl f))) (ht : tt[t0]? = some (cA, .boolean)) (hin : ¬ (i < 0 ∨ N ≤ i.toNatClampNeg)) (hd : decode cc pc = .ok (.baload, 1)) (kk : J wf X nL k n σ (pc + 1) loc (.int (f i.toNatClampNeg) :: rest)) : J wf X nL k n σ pc loc (.int i :: .ref a :: rest) := by
  obtain ⟨p, l, e, R, s, m, args, below, meth, c, Q, D, A, tys⟩ := X
  obtain ⟨rfl, rfl, rfl, hx, hb, hml, ho, hts, hK, hA, e1, e2, e3, e4, hsp, hsz⟩ := C
  intro H locs ls hl hP hD hS
  obtain ⟨q0, hq⟩ := hr
  exact va_zald hx hb hK hP q0 t0 hq ht hin hd (kk H locs ls hl hP hD hS)
theorem j_lald (C : JC X l0 D0 tt eE cc own nL Ts fr lo ce sl) {a N : Nat} {cA : ClassId} {f : Nat → Int64} {i : Int32} (t0 : Nat) (hr : Rd (wf σ) a (.inl (cA, N, .inr (.inl f)))) (ht : tt[t0]? = some (cA, .long)) (hin : ¬ (i < 0 ∨ N ≤ i.toNatClampNeg)) (hd : decode cc pc = .ok (.laload, 1)) (kk : J wf X nL k n σ (pc + 1) loc (.long (f i.toNatClampNeg) :: rest)) : J wf X nL k n σ pc loc (.int i :: .ref a :: rest) := by
  obtain ⟨p, l, e, R, s, m, args, below, meth, c, Q, D, A, tys⟩ := X
  obtain ⟨rfl, rfl, rfl, hx, hb, hml, ho, hts, hK, hA, e1, e2, e3, e4, hsp, hsz⟩ := C
  intro H locs ls hl hP hD hS
  obtain ⟨q0, hq⟩ := hr
  exact va_lald hx hb hK hP q0 t0 hq ht hin hd (kk H locs ls hl hP hD hS)
theorem j_iast (C : JC X l0 D0 tt eE cc own nL Ts fr lo ce sl) {a N : Nat} {cA : ClassId} {f : Nat → Int32} {i : Int32} {x : Int32} (t0 : Nat) (hr : Wr (wf σ) a (.inl (cA, N, .inl f)) (.inl (cA, N, .inl (upd f i.toNatClampNeg x))) (wf σ')) (ht : tt[t0]? = some (cA, .int)) (hin : ¬ (i < 0 ∨ N ≤ i.toNatClampNeg)) (hd : decode cc pc = .ok (.iastore, 1)) (kk : J wf X nL k n σ' (pc + 1) loc rest) : J wf X nL k n σ pc loc (.int x :: .int i :: .ref a :: rest) := by
  obtain ⟨p, l, e, R, s, m, args, below, meth, c, Q, D, A, tys⟩ := X
  obtain ⟨rfl, rfl, rfl, hx, hb, hml, ho, hts, hK, hA, e1, e2, e3, e4, hsp, hsz⟩ := C
  intro H locs ls hl hP hD hS
  obtain ⟨q0, hq, hset⟩ := hr _ hD
  exact va_iast hx hb hK hP hD hS q0 t0 hq ht hin hd (fun H1 locs1 hP1 hD1 hS1 => kk H1 locs1 ls hl (by rw [← hset]; exact hP1) (by rw [← hset]; exact hD1) hS1)
theorem j_last (C : JC X l0 D0 tt eE cc own nL Ts fr lo ce sl) {a N : Nat} {cA : ClassId} {f : Nat → Int64} {i : Int32} {x : Int64} (t0 : Nat) (hr : Wr (wf σ) a (.inl (cA, N, .inr (.inl f))) (.inl (cA, N, .inr (.inl (vp_updL f i.toNatClampNeg x)))) (wf σ')) (ht : tt[t0]? = some (cA, .long)) (hin : ¬ (i < 0 ∨ N ≤ i.toNatClampNeg)) (hd : decode cc pc = .ok (.lastore, 1)) (kk : J wf X nL k n σ' (pc + 1) loc rest) : J wf X nL k n σ pc loc (.long x :: .int i :: .ref a :: rest) := by
  obtain ⟨p, l, e, R, s, m, args, below, meth, c, Q, D, A, tys⟩ := X
  obtain ⟨rfl, rfl, rfl, hx, hb, hml, ho, hts, hK, hA, e1, e2, e3, e4, hsp, hsz⟩ := C
  intro H locs ls hl hP hD hS
  obtain ⟨q0, hq, hset⟩ := hr _ hD
  exact va_last hx hb hK hP hD hS q0 t0 hq ht hin hd (fun H1 locs1 hP1 hD1 hS1 => kk H1 locs1 ls hl (by rw [← hset]; exact hP1) (by rw [← hset]; exact hD1) hS1)
theorem nar_z {x : Int32} (hz : x = 0 ∨ x = 1) : vp_nar .boolean x = x := by rcases hz with rfl | rfl <;> rfl
theorem j_zast (C : JC X l0 D0 tt eE cc own nL Ts fr lo ce sl) {a N : Nat} {cA : ClassId} {f : Nat → Int32} {i : Int32} {x : Int32} (t0 : Nat) (hz : x = 0 ∨ x = 1) (hr : Wr (wf σ) a (.inl (cA, N, .inl f)) (.inl (cA, N, .inl (upd f i.toNatClampNeg x))) (wf σ')) (ht : tt[t0]? = some (cA, .boolean)) (hin : ¬ (i < 0 ∨ N ≤ i.toNatClampNeg)) (hd : decode cc pc = .ok (.bastore, 1)) (kk : J wf X nL k n σ' (pc + 1) loc rest) : J wf X nL k n σ pc loc (.int x :: .int i :: .ref a :: rest) := by
  obtain ⟨p, l, e, R, s, m, args, below, meth, c, Q, D, A, tys⟩ := X
  obtain ⟨rfl, rfl, rfl, hx, hb, hml, ho, hts, hK, hA, e1, e2, e3, e4, hsp, hsz⟩ := C
  intro H locs ls hl hP hD hS
  obtain ⟨q0, hq, hset⟩ := hr _ hD
  refine va_zast hx hb hK hP hD hS q0 t0 hq ht hin hd (fun H1 locs1 hP1 hD1 hS1 => ?_)
  rw [nar_z hz] at hP1 hD1
  exact kk H1 locs1 ls hl (by rw [← hset]; exact hP1) (by rw [← hset]; exact hD1) hS1
theorem j_aald (C : JC X l0 D0 tt eE cc own nL Ts fr lo ce sl) {a N : Nat} {cA : ClassId} {Cn : String} {f : Nat → Option Nat} {i : Int32} {q : Nat} (t0 : Nat) (hr : Rd (wf σ) a (.inl (cA, N, .inr (.inr (.inr (.inr f)))))) (ht : tt[t0]? = some (cA, .object Cn)) (hin : ¬ (i < 0 ∨ N ≤ i.toNatClampNeg)) (hv : f i.toNatClampNeg = some q) (hd : decode cc pc = .ok (.aaload, 1)) (kk : J wf X nL k n σ (pc + 1) loc (.ref q :: rest)) : J wf X nL k n σ pc loc (.int i :: .ref a :: rest) := by
  obtain ⟨p, l, e, R, s, m, args, below, meth, c, Q, D, A, tys⟩ := X
  obtain ⟨rfl, rfl, rfl, hx, hb, hml, ho, hts, hK, hA, e1, e2, e3, e4, hsp, hsz⟩ := C
  intro H locs ls hl hP hD hS
  obtain ⟨q0, hq⟩ := hr
  refine va_aldq hx hb hK hP q0 t0 hq ht hin hd ?_
  rw [hv]
  exact kk H locs ls hl hP hD hS
theorem j_alen (C : JC X l0 D0 tt eE cc own nL Ts fr lo ce sl) {a : Nat} {cA : ClassId} {x : vp_A} {ty : FieldType} (t0 : Nat) (hr : Rd (wf σ) a (.inl (cA, x))) (ht : tt[t0]? = some (cA, ty)) (hd : decode cc pc = .ok (.arraylength, 1)) (kk : J wf X nL k n σ (pc + 1) loc (.int (nI x.1) :: rest)) : J wf X nL k n σ pc loc (.ref a :: rest) := by
  obtain ⟨p, l, e, R, s, m, args, below, meth, c, Q, D, A, tys⟩ := X
  obtain ⟨rfl, rfl, rfl, hx, hb, hml, ho, hts, hK, hA, e1, e2, e3, e4, hsp, hsz⟩ := C
  intro H locs ls hl hP hD hS
  obtain ⟨q0, hq⟩ := hr
  exact va_alen hx hb hK hP q0 t0 hq ht rfl hd (kk H locs ls hl hP hD hS)
theorem j_aast (C : JC X l0 D0 tt eE cc own nL Ts fr lo ce sl) {a N v ci : Nat} {cA : ClassId} {r : vw_C} {vs : List Value} {f : Nat → Option Nat} {i : Int32} (t0 : Nat) (hr : Wr (wf σ) a (.inl (cA, N, .inr (.inr (.inr (.inr f))))) (.inl (cA, N, .inr (.inr (.inr (.inr (va_up f i.toNatClampNeg (some v))))))) (wf σ')) (ht : tt[t0]? = some (cA, .object r.1)) (hv : Rd (wf σ) v (.inr (ci, vs))) (hc : vwCl[ci]? = some r) (hin : ¬ (i < 0 ∨ N ≤ i.toNatClampNeg)) (hd : decode cc pc = .ok (.aastore, 1)) (kk : J wf X nL k n σ' (pc + 1) loc rest) : J wf X nL k n σ pc loc (.ref v :: .int i :: .ref a :: rest) := by
  obtain ⟨p, l, e, R, s, m, args, below, meth, c, Q, D, A, tys⟩ := X
  obtain ⟨rfl, rfl, rfl, hx, hb, hml, ho, hts, hK, hA, e1, e2, e3, e4, hsp, hsz⟩ := C
  intro H locs ls hl hP hD hS
  obtain ⟨q0, hq, hset⟩ := hr _ hD
  obtain ⟨qk, hqk⟩ := hv
  exact va_astq hx hb hK hP hD hS q0 t0 qk ci hq ht hqk hc hin hd (fun H1 locs1 hP1 hD1 hS1 => kk H1 locs1 ls hl (by rw [← hset]; exact hP1) (by rw [← hset]; exact hD1) hS1)
theorem j_aastO (C : JC X l0 D0 tt eE cc own nL Ts fr lo ce sl) {a N v ci : Nat} {E : String} {cA : ClassId} {r : vw_C} {vs : List Value} {f : Nat → Option Nat} {i : Int32} (t0 : Nat) (hr : Wr (wf σ) a (.inl (cA, N, .inr (.inr (.inr (.inr f))))) (.inl (cA, N, .inr (.inr (.inr (.inr (va_up f i.toNatClampNeg (some v))))))) (wf σ')) (ht : tt[t0]? = some (cA, .object E)) (hca : (r.1, E) ∈ SPC) (hv : Rd (wf σ) v (.inr (ci, vs))) (hc : vwCl[ci]? = some r) (hin : ¬ (i < 0 ∨ N ≤ i.toNatClampNeg)) (hd : decode cc pc = .ok (.aastore, 1)) (kk : J wf X nL k n σ' (pc + 1) loc rest) : J wf X nL k n σ pc loc (.ref v :: .int i :: .ref a :: rest) := by
  obtain ⟨p, l, e, R, s, m, args, below, meth, c, Q, D, A, tys⟩ := X
  obtain ⟨rfl, rfl, rfl, hx, hb, hml, ho, hts, hK, hA, e1, e2, e3, e4, hsp, hsz⟩ := C
  intro H locs ls hl hP hD hS
  obtain ⟨q0, hq, hset⟩ := hr _ hD
  obtain ⟨qk, hqk⟩ := hv
  exact va_astqO hx hb hK hP hD hS q0 t0 qk ci hq ht (hsp.2.1 _ hca) hqk hc hin hd (fun H1 locs1 hP1 hD1 hS1 => kk H1 locs1 ls hl (by rw [← hset]; exact hP1) (by rw [← hset]; exact hD1) hS1)
theorem j_aastN (C : JC X l0 D0 tt eE cc own nL Ts fr lo ce sl) {a N : Nat} {cA : ClassId} {E : String} {f : Nat → Option Nat} {i : Int32} (t0 : Nat) (hr : Wr (wf σ) a (.inl (cA, N, .inr (.inr (.inr (.inr f))))) (.inl (cA, N, .inr (.inr (.inr (.inr (va_up f i.toNatClampNeg none)))))) (wf σ')) (ht : tt[t0]? = some (cA, .object E)) (hin : ¬ (i < 0 ∨ N ≤ i.toNatClampNeg)) (hd : decode cc pc = .ok (.aastore, 1)) (kk : J wf X nL k n σ' (pc + 1) loc rest) : J wf X nL k n σ pc loc (.null :: .int i :: .ref a :: rest) := by
  obtain ⟨p, l, e, R, s, m, args, below, meth, c, Q, D, A, tys⟩ := X
  obtain ⟨rfl, rfl, rfl, hx, hb, hml, ho, hts, hK, hA, e1, e2, e3, e4, hsp, hsz⟩ := C
  intro H locs ls hl hP hD hS
  obtain ⟨q0, hq, hset⟩ := hr _ hD
  exact va_astqN hx hb hK hP hD hS q0 t0 hq ht hin hd (fun H1 locs1 hP1 hD1 hS1 => kk H1 locs1 ls hl (by rw [← hset]; exact hP1) (by rw [← hset]; exact hD1) hS1)
theorem j_cast (C : JC X l0 D0 tt eE cc own nL Ts fr lo ce sl) {a ci ix N : Nat} {Cn nm : String} {T : u_T} {fs : List Value} (hr : Rd (wf σ) a (.inr (ci, fs))) (hc : vwCl[ci]? = some (Cn, T, N)) (hca : (Cn, nm) ∈ SPC) (hw : Cond.classLink own ix nm ∈ Ts) (hd : decode cc pc = .ok (.checkcast ix, 3)) (kk : J wf X nL k n σ (pc + 3) loc (.ref a :: rest)) : J wf X nL k n σ pc loc (.ref a :: rest) := by
  obtain ⟨p, l, e, R, s, m, args, below, meth, c, Q, D, A, tys⟩ := X
  obtain ⟨rfl, rfl, rfl, hx, hb, hml, ho, hts, hK, hA, e1, e2, e3, e4, hsp, hsz⟩ := C
  intro H locs ls hl hP hD hS
  obtain ⟨q0, hq⟩ := hr
  exact va_castY hx hb ho (hts _ hw) (hsp.2.1 _ hca) (va_recv hK hP hc hq) hd (kk H locs ls hl hP hD hS)
theorem j_copyi (C : JC X l0 D0 tt eE cc own nL Ts fr lo ce sl) {a a0 ix n0 n1 : Nat} {c0 c1 : ClassId} {f g : Nat → Int32} {sp dp z : Int32} (t0 t1 : Nat) (hr0 : Rd (wf σ) a0 (.inl (c0, n0, .inl f))) (hr1 : Wr (wf σ) a (.inl (c1, n1, .inl g)) (.inl (c1, n1, .inl (va_cpy f g sp.toNatClampNeg dp.toNatClampNeg z.toNatClampNeg))) (wf σ')) (ht0 : tt[t0]? = some (c0, .int)) (ht1 : tt[t1]? = some (c1, .int)) (w1 : Cond.methodLink own ix arraycopyName ∈ Ts) (w2 : Cond.native arraycopyName ∈ Ts) (w3 : Cond.static arraycopyName ∈ Ts) (w4 : Cond.initialized "java/lang/System" ∈ Ts) (h1 : ¬ sp < 0) (h2 : ¬ dp < 0) (h3 : ¬ z < 0) (h4 : sp.toNatClampNeg + z.toNatClampNeg ≤ n0) (h5 : dp.toNatClampNeg + z.toNatClampNeg ≤ n1) (h6 : 1 ≤ fr) (h7 : (rest.map fun v => v.category).sum + (nativeFrameWords "java/lang/System" "arraycopy" 5 + 11) ≤ lo) (hd : decode cc pc = .ok (.invokestatic ix, 3)) (kk : J wf X nL k n σ' (pc + 3) loc rest) : J wf X nL k n σ pc loc (.int z :: .int dp :: .ref a :: .int sp :: .ref a0 :: rest) := by
  obtain ⟨p, l, e, R, s, m, args, below, meth, c, Q, D, A, tys⟩ := X
  obtain ⟨rfl, rfl, rfl, hx, hb, hml, ho, hts, hK, hA, e1, e2, e3, e4, hsp, hsz⟩ := C
  intro H locs ls hl hP hD hS
  obtain ⟨q1, hq1, hset⟩ := hr1 _ hD
  obtain ⟨q0, hq0⟩ := hr0
  exact va_copyi hx hb (by rw [hml]; exact hl.1.symm) ho (hts _ w1) (hts _ w2) (hts _ w3) (hts _ w4) hK hP hD hS q0 q1 t0 t1 hq0 hq1 ht0 ht1 rfl h1 h2 h3 h4 h5 (fun _ _ => rfl) (by rw [e1]; exact h6) (by rw [e2]; exact h7) hd (fun H1 locs1 hP1 hD1 hS1 => kk H1 locs1 ls hl (by rw [← hset]; exact hP1) (by rw [← hset]; exact hD1) hS1)
theorem j_copyq (C : JC X l0 D0 tt eE cc own nL Ts fr lo ce sl) {a ix n0 ci N : Nat} {c0 : ClassId} {f : Nat → Option Nat} {Cn : String} {T : u_T} {sp dp z : Int32} (t0 : Nat) (hr : Wr (wf σ) a (.inl (c0, n0, .inr (.inr (.inr (.inr f))))) (.inl (c0, n0, .inr (.inr (.inr (.inr (va_cpy f f sp.toNatClampNeg dp.toNatClampNeg z.toNatClampNeg)))))) (wf σ')) (ht : tt[t0]? = some (c0, .object "java/lang/Object")) (hel : ∀ i : Nat, i < z.toNatClampNeg → ∀ y : Nat, f (sp.toNatClampNeg + i) = some y → ∃ fs : List Value, Rd (wf σ) y (.inr (ci, fs))) (hc : vwCl[ci]? = some (Cn, T, N)) (hca : (Cn, "java/lang/Object") ∈ SPC) (w1 : Cond.methodLink own ix arraycopyName ∈ Ts) (w2 : Cond.native arraycopyName ∈ Ts) (w3 : Cond.static arraycopyName ∈ Ts) (w4 : Cond.initialized "java/lang/System" ∈ Ts) (h1 : ¬ sp < 0) (h2 : ¬ dp < 0) (h3 : ¬ z < 0) (h4 : sp.toNatClampNeg + z.toNatClampNeg ≤ n0) (h5 : dp.toNatClampNeg + z.toNatClampNeg ≤ n0) (h6 : 1 ≤ fr) (h7 : (rest.map fun v => v.category).sum + (nativeFrameWords "java/lang/System" "arraycopy" 5 + 11) ≤ lo) (hd : decode cc pc = .ok (.invokestatic ix, 3)) (kk : J wf X nL k n σ' (pc + 3) loc rest) : J wf X nL k n σ pc loc (.int z :: .int dp :: .ref a :: .int sp :: .ref a :: rest) := by
  obtain ⟨p, l, e, R, s, m, args, below, meth, c, Q, D, A, tys⟩ := X
  obtain ⟨rfl, rfl, rfl, hx, hb, hml, ho, hts, hK, hA, e1, e2, e3, e4, hsp, hsz⟩ := C
  intro H locs ls hl hP hD hS
  obtain ⟨q1, hq1, hset⟩ := hr _ hD
  exact va_copyq (C := Cn) hx hb (by rw [hml]; exact hl.1.symm) ho (hts _ w1) (hts _ w2) (hts _ w3) (hts _ w4) hK hP hD hS q1 q1 t0 t0 hq1 hq1 ht ht h1 h2 h3 h4 h5 (fun i hi y hy => by obtain ⟨fs, q, hq⟩ := hel i hi y hy; exact va_recv hK hP hc hq) (vb_asgC (hsp.2.1 _ hca)) (by rw [e1]; exact h6) (by rw [e2]; exact h7) hd (fun H1 locs1 hP1 hD1 hS1 => kk H1 locs1 ls hl (by rw [← hset]; exact hP1) (by rw [← hset]; exact hD1) hS1)
end JHEAP
/-! calls -/
section JCALL
variable {S : Type} {wf : S → va_W} {p : Program} {l : Launch} {e : Env} {R : Room} {s : State} {m : MethodId} {args : Array Value} {below : List Frame} {meth : Method} {c : Code} {H : Heap} {locs : List Loc} {k n mc ms pc : Nat} {Q : State → Prop} {ls : Array Slot} {st rest : List Value} {D : va_G} {tys : List (ClassId × FieldType)} {A : Nat → Prop} {σ : S} {P : Option Value → S → Prop} {a : Array Value}
theorem va_callS (hr : va_Run p l e R s m args below meth c H locs k n mc ms (F0 m pc ls st) rest (QS wf D tys (va_A (wf σ) H.size) P a) (va_A (wf σ) H.size)) (hD : va_D A (wf σ)) (hS : va_S A s.heap H locs) (hA : ∀ q, s.heap.size ≤ q → A q)
    (kk : ∀ (v : Option Value) (σ' : S) (H1 : Heap) (locs1 : List Loc), P v σ' → va_P D vwCl (wf σ') H1 → va_D A (wf σ') → va_S A s.heap H1 locs1 → W p l e R s m args below meth c H1 locs1 (k + mc) (n + ms) Q (F0 m (pc + 3) ls (v.toList ++ rest))) : W p l e R s m args below meth c H locs k n Q (F0 m pc ls st) := by
  intro T hT X
  obtain ⟨v, st₀, t, T', L, h0, X', hL, e1, e2, ⟨⟨v', σ', hv, hp, hP1, hK1, hD1⟩, hz, hk⟩, stp⟩ := hr T hT X
  cases hv
  rw [h0] at hz hk
  have hF : ∀ q, va_A (wf σ) H.size q → A q := by
    intro q h
    rcases h with ⟨j, x, h⟩ | h
    · exact hD.2 j _ h
    · exact hA q (Nat.le_trans hS.1 h)
  obtain ⟨t2, a1, b1⟩ := kk v σ' T'.heap (locs ++ L) hp (by rw [e1]; exact hP1) (hD1.weaken (fun _ _ _ h => hF _ h))
    ⟨Nat.le_trans hS.1 (by rw [e1]; exact hz), fun q h1 h2 => by rw [e1, hk q (Nat.lt_of_lt_of_le h1 hS.1) (fun z => h2 (hF q z))]; exact hS.2.1 q h1 h2, fun q hq => by
      rcases List.mem_append.mp hq with h | h
      · exact hS.2.2 q h
      · exact hF _ (hL q h)⟩ T' rfl X'
  exact ⟨t2, stp t2 a1, b1⟩
theorem PS_blind {eE : Nat × Nat} {sz : Nat} {av : List Value} : FrameBlind (PS wf D tys eE sz av σ) := fun a U g mk q => by
  obtain ⟨q0, qP, qK, qD, qz, qs, qt⟩ := q
  exact ⟨q0, qP, va_K.moved (u := U) (U := U.calling g mk a) (Vm.Alike.refl U.vm) qK, qD, qz, SPh.same (u := U) (U := U.calling g mk a) rfl qs, SZ.moved (u := U) (U := U.calling g mk a) (Vm.Alike.refl U.vm) qt⟩
theorem PS_of {eE : Nat × Nat} {av : List Value} (hP : va_P D vwCl (wf σ) H) (hD : va_D A (wf σ)) (hK : va_K D vwCl tys s) (hS : va_S A s.heap H locs) (hA : ∀ q, s.heap.size ≤ q → A q) (hsp : SPh s) (hsz : SZ eE A s s.heap) (U : State) (hU : U.heap = H) (hW : s.WarmedH U.vm) : PS wf D tys eE H.size av σ av.toArray U := by
  have hF : ∀ q, va_A (wf σ) H.size q → A q := by
    intro q h
    rcases h with ⟨j, x, h⟩ | h
    · exact hD.2 j _ h
    · exact hA q (Nat.le_trans hS.1 h)
  exact ⟨rfl, by rw [hU]; exact hP, va_K.moved hW.alike hK, hD.weaken (fun _ _ _ _ => trivial), by rw [hU], hsp.warm hW, by rw [hU]; exact ((hsz.kept hS.2.1).narrow hF).moved hW.alike⟩
end JCALL
section JCALLS
variable {S : Type} {wf : S → va_W} {X : JX} {l0 : Launch} {D0 : va_G} {tt : List (ClassId × FieldType)} {eE : Nat × Nat} {cc : ByteArray} {own : String} {nL : Nat} {Ts : List Cond} {fr lo ce sl k n : Nat} {σ : S} {pc : Nat} {loc : List (Nat × Value)} {st : List Value}
variable {y : MethodName} {bytes : ByteArray} {maxL ix fr' lo' mc ms : Nat} {ret : Option FieldType} {ws ws' : List Cond} {P : Option Value → S → Prop}
theorem j_callV (C : JC X l0 D0 tt eE cc own nL Ts fr lo ce sl) {b ci : Nat} {Cn : String} {T : u_T} {N : Nat} {fs : List Value} (As rest : List Value) (hM : MS l0 y ws fr' lo' mc ms wf D0 tt eE (.ref b :: As) σ P) (hG : GoodIn Ts (wsV own ix Cn y ws)) (hy : y.cls = Cn ∧ y.cls ≠ "java/lang/invoke/MethodHandle" ∧ y.cls ≠ "java/lang/invoke/VarHandle" ∧ (parseMethodDescriptor y.desc).map (fun d => d.parameters.length) = some As.length) (hw : ws = Cond.code y bytes maxL ret :: ws') (hr : Rd (wf σ) b (.inr (ci, fs))) (hc : vwCl[ci]? = some (Cn, T, N)) (hs : st = As.reverse ++ .ref b :: rest) (h1 : fr' + 1 ≤ fr) (h2 : 8 + (maxL + 11) + lo' ≤ lo) (h3 : k + mc ≤ ce) (h4 : n + ms ≤ sl) (h5 : (rest.map fun v => v.category).sum ≤ 8) (hd : decode cc pc = .ok (.invokevirtual ix, 3)) (kk : ∀ (v : Option Value) (σ' : S), P v σ' → J wf X nL (k + mc) (n + ms) σ' (pc + 3) loc (v.toList ++ rest)) : J wf X nL k n σ pc loc st := by
  obtain ⟨p, l, e, R, s, m, args, below, meth, c, Q, D, A, tys⟩ := X
  obtain ⟨rfl, rfl, rfl, hx, hb, hml, ho, hts, hK, hA, e1, e2, e3, e4, hsp, hsz⟩ := C
  intro H locs ls hl hP hD hS
  subst hs
  exact va_callS (va_runV (C := Cn) (rest := rest) (As := As) ⟨hx, hb, hml, ho, hts⟩ (hM H.size) (cwV (rm := { frames := fr', cells := mc, slots := ms, locals := lo' }) As.length hts hG hw rfl rfl hy ⟨by rw [e1]; exact h1, by rw [e2]; exact h2⟩) ⟨PS_blind, (by obtain ⟨q0, hq⟩ := hr; exact va_recv hK hP hc hq), fun U hU hW => PS_of hP hD hK hS hA hsp hsz U hU hW⟩ rfl rfl hl.1 rfl (lv_room h5) hd ⟨by rw [e3]; exact h3, by rw [e4]; exact h4⟩) hD hS hA (fun v σ' H1 locs1 hp hP1 hD1 hS1 => kk v σ' hp H1 locs1 ls hl hP1 hD1 hS1)
theorem j_callVN (C : JC X l0 D0 tt eE cc own nL Ts fr lo ce sl) {b ci : Nat} {Cn : String} {T : u_T} {N : Nat} {fs : List Value} {host : String} (As rest : List Value) (hM : MS l0 y ws fr' lo' mc ms wf D0 tt eE (.ref b :: As) σ P) (hG : GoodIn Ts ws) (hlk : (own, ix, y, host) ∈ SPM) (hini : Cond.initialized y.cls ∈ Ts) (hins : Cond.instanceMethod y ∈ Ts) (hsel : Cond.selects Cn y y ∈ Ts) (hy : y.cls ≠ "java/lang/invoke/MethodHandle" ∧ y.cls ≠ "java/lang/invoke/VarHandle" ∧ (parseMethodDescriptor y.desc).map (fun d => d.parameters.length) = some As.length) (hw : ws = Cond.code y bytes maxL ret :: ws') (hr : Rd (wf σ) b (.inr (ci, fs))) (hc : vwCl[ci]? = some (Cn, T, N)) (hs : st = As.reverse ++ .ref b :: rest) (h1 : fr' + 1 ≤ fr) (h2 : 8 + (maxL + 11) + lo' ≤ lo) (h3 : k + mc ≤ ce) (h4 : n + ms ≤ sl) (h5 : (rest.map fun v => v.category).sum ≤ 8) (hd : decode cc pc = .ok (.invokevirtual ix, 3)) (kk : ∀ (v : Option Value) (σ' : S), P v σ' → J wf X nL (k + mc) (n + ms) σ' (pc + 3) loc (v.toList ++ rest)) : J wf X nL k n σ pc loc st := by
  obtain ⟨p, l, e, R, s, m, args, below, meth, c, Q, D, A, tys⟩ := X
  obtain ⟨rfl, rfl, rfl, hx, hb, hml, ho, hts, hK, hA, e1, e2, e3, e4, hsp, hsz⟩ := C
  intro H locs ls hl hP hD hS
  subst hs
  exact va_callS (va_runVN (C := Cn) (rest := rest) (As := As) ⟨hx, hb, hml, ho, hts⟩ (hM H.size) ⟨va_cnB (rm := { frames := fr', cells := mc, slots := ms, locals := lo' }) As.length hts hG hw rfl rfl (hsp.1 _ hlk) (hts _ hini) hy ⟨by rw [e1]; exact h1, by rw [e2]; exact h2⟩, hts _ hins, hts _ hsel⟩ ⟨PS_blind, (by obtain ⟨q0, hq⟩ := hr; exact va_recv hK hP hc hq), fun U hU hW => PS_of hP hD hK hS hA hsp hsz U hU hW⟩ rfl rfl hl.1 rfl (lv_room h5) hd ⟨by rw [e3]; exact h3, by rw [e4]; exact h4⟩) hD hS hA (fun v σ' H1 locs1 hp hP1 hD1 hS1 => kk v σ' hp H1 locs1 ls hl hP1 hD1 hS1)
theorem j_callS (C : JC X l0 D0 tt eE cc own nL Ts fr lo ce sl) (As rest : List Value) (hM : MS l0 y ws fr' lo' mc ms wf D0 tt eE (As) σ P) (hG : GoodIn Ts (va_wsS own ix y ws)) (hy : y.cls ≠ "java/lang/invoke/MethodHandle" ∧ y.cls ≠ "java/lang/invoke/VarHandle" ∧ (parseMethodDescriptor y.desc).map (fun d => d.parameters.length) = some As.length) (hw : ws = Cond.code y bytes maxL ret :: ws') (hs : st = As.reverse ++ rest) (h1 : fr' + 1 ≤ fr) (h2 : 8 + (maxL + 11) + lo' ≤ lo) (h3 : k + mc ≤ ce) (h4 : n + ms ≤ sl) (h5 : (rest.map fun v => v.category).sum ≤ 8) (hd : decode cc pc = .ok (.invokestatic ix, 3)) (kk : ∀ (v : Option Value) (σ' : S), P v σ' → J wf X nL (k + mc) (n + ms) σ' (pc + 3) loc (v.toList ++ rest)) : J wf X nL k n σ pc loc st := by
  obtain ⟨p, l, e, R, s, m, args, below, meth, c, Q, D, A, tys⟩ := X
  obtain ⟨rfl, rfl, rfl, hx, hb, hml, ho, hts, hK, hA, e1, e2, e3, e4, hsp, hsz⟩ := C
  intro H locs ls hl hP hD hS
  subst hs
  exact va_callS (va_runS (rest := rest) (As := As) ⟨hx, hb, hml, ho, hts⟩ (hM H.size) (va_cwS (rm := { frames := fr', cells := mc, slots := ms, locals := lo' }) As.length hts hG hw rfl rfl hy ⟨by rw [e1]; exact h1, by rw [e2]; exact h2⟩) ⟨PS_blind, fun U hU hW => PS_of hP hD hK hS hA hsp hsz U hU hW⟩ rfl rfl hl.1 rfl (lv_room h5) hd ⟨by rw [e3]; exact h3, by rw [e4]; exact h4⟩) hD hS hA (fun v σ' H1 locs1 hp hP1 hD1 hS1 => kk v σ' hp H1 locs1 ls hl hP1 hD1 hS1)
theorem j_callSN (C : JC X l0 D0 tt eE cc own nL Ts fr lo ce sl) {host : String} (As rest : List Value) (hM : MS l0 y ws fr' lo' mc ms wf D0 tt eE (As) σ P) (hG : GoodIn Ts ws) (hlk : (own, ix, y, host) ∈ SPM) (hini : Cond.initialized y.cls ∈ Ts) (hstc : Cond.static y ∈ Ts) (hy : y.cls ≠ "java/lang/invoke/MethodHandle" ∧ y.cls ≠ "java/lang/invoke/VarHandle" ∧ (parseMethodDescriptor y.desc).map (fun d => d.parameters.length) = some As.length) (hw : ws = Cond.code y bytes maxL ret :: ws') (hs : st = As.reverse ++ rest) (h1 : fr' + 1 ≤ fr) (h2 : 8 + (maxL + 11) + lo' ≤ lo) (h3 : k + mc ≤ ce) (h4 : n + ms ≤ sl) (h5 : (rest.map fun v => v.category).sum ≤ 8) (hd : decode cc pc = .ok (.invokestatic ix, 3)) (kk : ∀ (v : Option Value) (σ' : S), P v σ' → J wf X nL (k + mc) (n + ms) σ' (pc + 3) loc (v.toList ++ rest)) : J wf X nL k n σ pc loc st := by
  obtain ⟨p, l, e, R, s, m, args, below, meth, c, Q, D, A, tys⟩ := X
  obtain ⟨rfl, rfl, rfl, hx, hb, hml, ho, hts, hK, hA, e1, e2, e3, e4, hsp, hsz⟩ := C
  intro H locs ls hl hP hD hS
  subst hs
  exact va_callS (va_runSN (rest := rest) (As := As) ⟨hx, hb, hml, ho, hts⟩ (hM H.size) ⟨va_cnB (rm := { frames := fr', cells := mc, slots := ms, locals := lo' }) As.length hts hG hw rfl rfl (hsp.1 _ hlk) (hts _ hini) hy ⟨by rw [e1]; exact h1, by rw [e2]; exact h2⟩, hts _ hstc, trivial⟩ ⟨PS_blind, fun U hU hW => PS_of hP hD hK hS hA hsp hsz U hU hW⟩ rfl rfl hl.1 rfl (lv_room h5) hd ⟨by rw [e3]; exact h3, by rw [e4]; exact h4⟩) hD hS hA (fun v σ' H1 locs1 hp hP1 hD1 hS1 => kk v σ' hp H1 locs1 ls hl hP1 hD1 hS1)
theorem j_callIN (C : JC X l0 D0 tt eE cc own nL Ts fr lo ce sl) {b : Nat} {host : String} (As rest : List Value) (hM : MS l0 y ws fr' lo' mc ms wf D0 tt eE (.ref b :: As) σ P) (hG : GoodIn Ts ws) (hlk : (own, ix, y, host) ∈ SPM) (hini : Cond.initialized y.cls ∈ Ts) (hins : Cond.instanceMethod y ∈ Ts) (hy1 : y.name = "<init>") (hy : y.cls ≠ "java/lang/invoke/MethodHandle" ∧ y.cls ≠ "java/lang/invoke/VarHandle" ∧ (parseMethodDescriptor y.desc).map (fun d => d.parameters.length) = some As.length) (hw : ws = Cond.code y bytes maxL none :: ws') (hs : st = As.reverse ++ .ref b :: rest) (h1 : fr' + 1 ≤ fr) (h2 : 8 + (maxL + 11) + lo' ≤ lo) (h3 : k + mc ≤ ce) (h4 : n + ms ≤ sl) (h5 : (rest.map fun v => v.category).sum ≤ 8) (hd : decode cc pc = .ok (.invokespecial ix, 3)) (kk : ∀ (v : Option Value) (σ' : S), P v σ' → J wf X nL (k + mc) (n + ms) σ' (pc + 3) loc (v.toList ++ rest)) : J wf X nL k n σ pc loc st := by
  obtain ⟨p, l, e, R, s, m, args, below, meth, c, Q, D, A, tys⟩ := X
  obtain ⟨rfl, rfl, rfl, hx, hb, hml, ho, hts, hK, hA, e1, e2, e3, e4, hsp, hsz⟩ := C
  intro H locs ls hl hP hD hS
  subst hs
  exact va_callS (va_runIN (rest := rest) (As := As) ⟨hx, hb, hml, ho, hts⟩ (hM H.size) ⟨va_cnB (rm := { frames := fr', cells := mc, slots := ms, locals := lo' }) As.length hts hG hw rfl rfl (hsp.1 _ hlk) (hts _ hini) hy ⟨by rw [e1]; exact h1, by rw [e2]; exact h2⟩, hy1, hts _ hins⟩ ⟨PS_blind, fun U hU hW => PS_of hP hD hK hS hA hsp hsz U hU hW⟩ rfl rfl hl.1 rfl (lv_room h5) hd ⟨by rw [e3]; exact h3, by rw [e4]; exact h4⟩) hD hS hA (fun v σ' H1 locs1 hp hP1 hD1 hS1 => kk v σ' hp H1 locs1 ls hl hP1 hD1 hS1)
theorem j_callI (C : JC X l0 D0 tt eE cc own nL Ts fr lo ce sl) {b : Nat} (As rest : List Value) (hM : MS l0 y ws fr' lo' mc ms wf D0 tt eE (.ref b :: As) σ P) (hG : GoodIn Ts ws) (hlk : Cond.methodLink own ix y ∈ Ts) (hini : Cond.initialized y.cls ∈ Ts) (hins : Cond.instanceMethod y ∈ Ts) (hy1 : y.name = "<init>") (hy : y.cls ≠ "java/lang/invoke/MethodHandle" ∧ y.cls ≠ "java/lang/invoke/VarHandle" ∧ (parseMethodDescriptor y.desc).map (fun d => d.parameters.length) = some As.length) (hw : ws = Cond.code y bytes maxL none :: ws') (hs : st = As.reverse ++ .ref b :: rest) (h1 : fr' + 1 ≤ fr) (h2 : 8 + (maxL + 11) + lo' ≤ lo) (h3 : k + mc ≤ ce) (h4 : n + ms ≤ sl) (h5 : (rest.map fun v => v.category).sum ≤ 8) (hd : decode cc pc = .ok (.invokespecial ix, 3)) (kk : ∀ (v : Option Value) (σ' : S), P v σ' → J wf X nL (k + mc) (n + ms) σ' (pc + 3) loc (v.toList ++ rest)) : J wf X nL k n σ pc loc st := by
  obtain ⟨p, l, e, R, s, m, args, below, meth, c, Q, D, A, tys⟩ := X
  obtain ⟨rfl, rfl, rfl, hx, hb, hml, ho, hts, hK, hA, e1, e2, e3, e4, hsp, hsz⟩ := C
  intro H locs ls hl hP hD hS
  subst hs
  exact va_callS (va_runI (rest := rest) (As := As) ⟨hx, hb, hml, ho, hts⟩ (hM H.size) (cwI (rm := { frames := fr', cells := mc, slots := ms, locals := lo' }) As.length hts hG hw rfl rfl (hts _ hini) (hts _ hlk) (hts _ hins) hy1 hy ⟨by rw [e1]; exact h1, by rw [e2]; exact h2⟩) ⟨PS_blind, fun U hU hW => PS_of hP hD hK hS hA hsp hsz U hU hW⟩ rfl rfl hl.1 rfl (lv_room h5) hd ⟨by rw [e3]; exact h3, by rw [e4]; exact h4⟩) hD hS hA (fun v σ' H1 locs1 hp hP1 hD1 hS1 => kk v σ' hp H1 locs1 ls hl hP1 hD1 hS1)
end JCALLS
section JK
variable {S : Type} {wf : S → va_W} {X : JX} {nL k n pc : Nat} {loc : List (Nat × Value)} {rest : List Value} {σ1 : S}
theorem j_kI {r : Int32} (kk : J wf X nL k n σ1 pc loc (.int r :: rest)) : ∀ (v : Option Value) (σ' : S), PI r σ1 v σ' → J wf X nL (k + 0) (n + 0) σ' pc loc (v.toList ++ rest) := by
  intro v σ' h
  obtain ⟨rfl, rfl⟩ := h
  exact kk
theorem j_kL {r : Int64} (kk : J wf X nL k n σ1 pc loc (.long r :: rest)) : ∀ (v : Option Value) (σ' : S), PL r σ1 v σ' → J wf X nL (k + 0) (n + 0) σ' pc loc (v.toList ++ rest) := by
  intro v σ' h
  obtain ⟨rfl, rfl⟩ := h
  exact kk
theorem j_kA {r : Nat} (kk : J wf X nL k n σ1 pc loc (.ref r :: rest)) : ∀ (v : Option Value) (σ' : S), PA r σ1 v σ' → J wf X nL (k + 0) (n + 0) σ' pc loc (v.toList ++ rest) := by
  intro v σ' h
  obtain ⟨rfl, rfl⟩ := h
  exact kk
theorem j_kV (kk : J wf X nL k n σ1 pc loc rest) : ∀ (v : Option Value) (σ' : S), PV σ1 v σ' → J wf X nL (k + 0) (n + 0) σ' pc loc (v.toList ++ rest) := by
  intro v σ' h
  obtain ⟨rfl, rfl⟩ := h
  exact kk
end JK
section JOBJ
variable {S : Type} {wf : S → va_W} {X : JX} {l0 : Launch} {D0 : va_G} {tt : List (ClassId × FieldType)} {eE : Nat × Nat} {cc : ByteArray} {own : String} {nL : Nat} {Ts : List Cond} {fr lo ce sl k n : Nat} {σ : S} {pc : Nat} {loc : List (Nat × Value)} {rest : List Value}
theorem j_objInit (C : JC X l0 D0 tt eE cc own nL Ts fr lo ce sl) {a ix : Nat} (w1 : Cond.methodLink own ix Lib.objectInit ∈ Ts) (w2 : Cond.instanceMethod Lib.objectInit ∈ Ts) (w3 : Cond.code Lib.objectInit ⟨#[0xb1]⟩ 1 none ∈ Ts) (h1 : 1 ≤ fr) (h2 : (rest.map fun v => v.category).sum + 12 ≤ lo) (hd : decode cc pc = .ok (.invokespecial ix, 3)) (kk : J wf X nL k n σ (pc + 3) loc rest) : J wf X nL k n σ pc loc (.ref a :: rest) := by
  obtain ⟨p, l, e, R, s, m, args, below, meth, c, Q, D, A, tys⟩ := X
  obtain ⟨rfl, rfl, rfl, hx, hb, hml, ho, hts, hK, hA, e1, e2, e3, e4, hsp, hsz⟩ := C
  intro H locs ls hl hP hD hS
  exact W.objInit hx hb ho (hts _ w1) (hts _ w2) (hts _ w3) (g := F0 m pc ls (.ref a :: rest)) rfl (by rw [hml]; exact hl.1) rfl hd (by rw [e1]; exact h1) (by rw [e2]; show 2 * 0 + _ + 12 ≤ _; omega) (kk H locs ls hl hP hD hS)
end JOBJ
section JMATH
variable {S : Type} {wf : S → va_W} {X : JX} {l0 : Launch} {D0 : va_G} {tt : List (ClassId × FieldType)} {eE : Nat × Nat} {cc : ByteArray} {own : String} {nL : Nat} {Ts : List Cond} {fr lo ce sl k n : Nat} {σ : S} {pc : Nat} {loc : List (Nat × Value)} {rest : List Value}
theorem j_mmin (C : JC X l0 D0 tt eE cc own nL Ts fr lo ce sl) {ix : Nat} {x y : Int32} (w1 : Cond.methodLink own ix Lib.Math.min.name ∈ Ts) (w2 : Cond.static Lib.Math.min.name ∈ Ts) (w3 : Cond.initialized "java/lang/Math" ∈ Ts) (w4 : Cond.code Lib.Math.min.name Lib.Math.min.code 2 (some .int) ∈ Ts) (h1 : 1 ≤ fr) (h2 : (rest.map fun v => v.category).sum + 13 ≤ lo) (h3 : k ≤ ce) (h4 : n ≤ sl) (hd : decode cc pc = .ok (.invokestatic ix, 3)) (kk : J wf X nL k n σ (pc + 3) loc (.int (imin x y) :: rest)) : J wf X nL k n σ pc loc (.int y :: .int x :: rest) := by
  obtain ⟨p, l, e, R, s, m, args, below, meth, c, Q, D, A, tys⟩ := X
  obtain ⟨rfl, rfl, rfl, hx, hb, hml, ho, hts, hK, hA, e1, e2, e3, e4, hsp, hsz⟩ := C
  intro H locs ls hl hP hD hS
  exact va_mmin hx hb (by rw [hml]; exact hl.1.symm) ho (hts _ w1) (hts _ w2) (hts _ w3) (hts _ w4) (by rw [e1]; exact h1) (by rw [e2]; exact h2) (by rw [e3]; exact h3) (by rw [e4]; exact h4) hd (kk H locs ls hl hP hD hS)
theorem j_mmax (C : JC X l0 D0 tt eE cc own nL Ts fr lo ce sl) {ix : Nat} {x y : Int32} (w1 : Cond.methodLink own ix Lib.Math.max.name ∈ Ts) (w2 : Cond.static Lib.Math.max.name ∈ Ts) (w3 : Cond.initialized "java/lang/Math" ∈ Ts) (w4 : Cond.code Lib.Math.max.name Lib.Math.max.code 2 (some .int) ∈ Ts) (h1 : 1 ≤ fr) (h2 : (rest.map fun v => v.category).sum + 13 ≤ lo) (h3 : k ≤ ce) (h4 : n ≤ sl) (hd : decode cc pc = .ok (.invokestatic ix, 3)) (kk : J wf X nL k n σ (pc + 3) loc (.int (imax x y) :: rest)) : J wf X nL k n σ pc loc (.int y :: .int x :: rest) := by
  obtain ⟨p, l, e, R, s, m, args, below, meth, c, Q, D, A, tys⟩ := X
  obtain ⟨rfl, rfl, rfl, hx, hb, hml, ho, hts, hK, hA, e1, e2, e3, e4, hsp, hsz⟩ := C
  intro H locs ls hl hP hD hS
  exact va_mmax hx hb (by rw [hml]; exact hl.1.symm) ho (hts _ w1) (hts _ w2) (hts _ w3) (hts _ w4) (by rw [e1]; exact h1) (by rw [e2]; exact h2) (by rw [e3]; exact h3) (by rw [e4]; exact h4) hd (kk H locs ls hl hP hD hS)
theorem j_mmin_long (C : JC X l0 D0 tt eE cc own nL Ts fr lo ce sl) {ix : Nat} {x y : Int64} (w1 : Cond.methodLink own ix Lib.MathLoose.min_long.x ∈ Ts) (w2 : Cond.static Lib.MathLoose.min_long.x ∈ Ts) (w3 : Cond.initialized "java/lang/Math" ∈ Ts) (w4 : Cond.code Lib.MathLoose.min_long.x Lib.MathLoose.min_long.code 4 (some .long) ∈ Ts) (h1 : 1 ≤ fr) (h2 : (rest.map fun v => v.category).sum + 15 ≤ lo) (h3 : k ≤ ce) (h4 : n ≤ sl) (hd : decode cc pc = .ok (.invokestatic ix, 3)) (kk : J wf X nL k n σ (pc + 3) loc (.long (lmin x y) :: rest)) : J wf X nL k n σ pc loc (.long y :: .long x :: rest) := by
  obtain ⟨p, l, e, R, s, m, args, below, meth, c, Q, D, A, tys⟩ := X
  obtain ⟨rfl, rfl, rfl, hx, hb, hml, ho, hts, hK, hA, e1, e2, e3, e4, hsp, hsz⟩ := C
  intro H locs ls hl hP hD hS
  exact va_mmin_long hx hb (by rw [hml]; exact hl.1.symm) ho (hts _ w1) (hts _ w2) (hts _ w3) (hts _ w4) (by rw [e1]; exact h1) (by rw [e2]; exact h2) (by rw [e3]; exact h3) (by rw [e4]; exact h4) hd (kk H locs ls hl hP hD hS)
end JMATH
