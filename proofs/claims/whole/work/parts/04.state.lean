/-! the state of both systems: numbers, arrays, pooled objects -/
abbrev ST : Type := (Nat → Int32) × (Nat → Int64) × (Nat → Nat → Int32) × (Nat → Int64) × (Nat → Nat → Option Nat) × List Nat × (Nat → Nat) × (Nat → Nat → Int32) × (Nat → Nat) × (Nat → Nat → Option Nat) × (Nat → Nat)
def gI (σ : ST) (j : Nat) : Int32 := σ.1 j
def gL (σ : ST) (j : Nat) : Int64 := σ.2.1 j
def gA (σ : ST) (a i : Nat) : Int32 := σ.2.2.1 a i
def gV (σ : ST) (i : Nat) : Int64 := σ.2.2.2.1 i
def gR (σ : ST) (a i : Nat) : Option Nat := σ.2.2.2.2.1 a i
def pL (σ : ST) : List Nat := σ.2.2.2.2.2.1
def pK (σ : ST) (q : Nat) : Nat := σ.2.2.2.2.2.2.1 q
def pP (σ : ST) (q j : Nat) : Int32 := σ.2.2.2.2.2.2.2.1 q j
def pC (σ : ST) (q : Nat) : Nat := σ.2.2.2.2.2.2.2.2.1 q
def pR (σ : ST) (q i : Nat) : Option Nat := σ.2.2.2.2.2.2.2.2.2.1 q i
def gE (σ : ST) (j : Nat) : Nat := σ.2.2.2.2.2.2.2.2.2.2 j
def sI (σ : ST) (j : Nat) (v : Int32) : ST := (upd σ.1 j v, σ.2)
def sL (σ : ST) (j : Nat) (v : Int64) : ST := (σ.1, vp_updL σ.2.1 j v, σ.2.2)
def sA (σ : ST) (a i : Nat) (v : Int32) : ST := (σ.1, σ.2.1, va_up σ.2.2.1 a (upd (σ.2.2.1 a) i v), σ.2.2.2)
def sW (σ : ST) (a : Nat) (f : Nat → Int32) : ST := (σ.1, σ.2.1, va_up σ.2.2.1 a f, σ.2.2.2)
def sV (σ : ST) (i : Nat) (v : Int64) : ST := (σ.1, σ.2.1, σ.2.2.1, vp_updL σ.2.2.2.1 i v, σ.2.2.2.2)
def sR (σ : ST) (a i : Nat) (v : Option Nat) : ST := (σ.1, σ.2.1, σ.2.2.1, σ.2.2.2.1, va_up σ.2.2.2.2.1 a (va_up (σ.2.2.2.2.1 a) i v), σ.2.2.2.2.2)
def sP (σ : ST) (q j : Nat) (v : Int32) : ST := (σ.1, σ.2.1, σ.2.2.1, σ.2.2.2.1, σ.2.2.2.2.1, σ.2.2.2.2.2.1, σ.2.2.2.2.2.2.1, va_up σ.2.2.2.2.2.2.2.1 q (upd (σ.2.2.2.2.2.2.2.1 q) j v), σ.2.2.2.2.2.2.2.2)
def sF (σ : ST) (q : Nat) (f : Nat → Option Nat) : ST := (σ.1, σ.2.1, σ.2.2.1, σ.2.2.2.1, σ.2.2.2.2.1, σ.2.2.2.2.2.1, σ.2.2.2.2.2.2.1, σ.2.2.2.2.2.2.2.1, σ.2.2.2.2.2.2.2.2.1, va_up σ.2.2.2.2.2.2.2.2.2.1 q f, σ.2.2.2.2.2.2.2.2.2.2)
def sQ (σ : ST) (q i : Nat) (v : Option Nat) : ST := sF σ q (va_up (pR σ q) i v)
def sE (σ : ST) (j : Nat) (v : Nat) : ST := (σ.1, σ.2.1, σ.2.2.1, σ.2.2.2.1, σ.2.2.2.2.1, σ.2.2.2.2.2.1, σ.2.2.2.2.2.2.1, σ.2.2.2.2.2.2.2.1, σ.2.2.2.2.2.2.2.2.1, σ.2.2.2.2.2.2.2.2.2.1, va_up σ.2.2.2.2.2.2.2.2.2.2 j v)
/-- a new pooled cell: its address, kind, numbers, size, places -/
def sN (σ : ST) (q kd : Nat) (p : Nat → Int32) (c : Nat) (f : Nat → Option Nat) : ST := (σ.1, σ.2.1, σ.2.2.1, σ.2.2.2.1, σ.2.2.2.2.1, σ.2.2.2.2.2.1 ++ [q], va_up σ.2.2.2.2.2.2.1 q kd, va_up σ.2.2.2.2.2.2.2.1 q p, va_up σ.2.2.2.2.2.2.2.2.1 q c, va_up σ.2.2.2.2.2.2.2.2.2.1 q f, σ.2.2.2.2.2.2.2.2.2.2)
def ttf (cs : Nat → ClassId) : List (ClassId × FieldType) := [(cs 0, .int), (cs 1, .boolean), (cs 2, .long), (cs 3, .object "TollLedger$Account"), (cs 4, .object "TollLedger$Offer"), (cs 5, .object "java/lang/Object")]
def pe1 (p : Nat → Int32) : va_E := .inr (6, [.int (p 0), .int (p 1), .int (p 2), .int (p 3)])
def pe2 (p : Nat → Int32) : va_E := .inr (7, [.int (p 0), .int (p 1), .int (p 2), .int (p 3), .int (p 4), .int (p 5)])
def pe3 (p : Nat → Int32) : va_E := .inr (8, [.int (p 0), .int (p 1), .int (p 2), .int (p 3), .int (p 4), .int (p 5)])
def pe0 (c : ClassId) (n : Nat) (f : Nat → Option Nat) : va_E := .inl (c, n, .inr (.inr (.inr (.inr f))))
def pfn (cs : Nat → ClassId) (σ : ST) (q : Nat) : va_E := if pK σ q = 1 then pe1 (pP σ q) else if pK σ q = 2 then pe2 (pP σ q) else if pK σ q = 3 then pe3 (pP σ q) else pe0 (cs 5) (pC σ q) (pR σ q)
def wfx (ad : Nat → Nat) (cs : Nat → ClassId) (σ : ST) : va_W := [(ad 0, .inr (0, [.ref (ad 1), .ref (ad 4), .ref (ad 5), .int (gI σ 0), .int (gI σ 1), .int (gI σ 2), .int (gI σ 3), .int (gI σ 4), .int (gI σ 5), .int (gI σ 6)])),
  (ad 1, .inr (1, [.ref (ad 8), .ref (ad 2), .ref (ad 6), .ref (ad 7), .int (gI σ 7), .int (gI σ 8)])),
  (ad 2, .inr (2, [.ref (ad 9), .ref (ad 10), .ref (ad 11)])),
  (ad 3, .inr (3, [.ref (ad 12), .int (gI σ 9)])),
  (ad 4, .inr (4, [.ref (ad 1), .ref (ad 3), .ref (ad 13), .ref (ad 14), .ref (ad 15), .ref (ad 16), .int (gI σ 10), .int (gI σ 11), .int (gI σ 12), .int (gI σ 13), .int (gI σ 14), .int (gI σ 15), .int (gI σ 16)])),
  (ad 5, .inr (5, [.ref (ad 17)])),
  (ad 6, .inr (9, [.int (gI σ 17), .ref (gE σ 0), .int (gI σ 18)])),
  (ad 7, .inr (9, [.int (gI σ 19), .ref (gE σ 1), .int (gI σ 20)])),
  (ad 8, .inl (cs 3, 6, .inr (.inr (.inr (.inr (gR σ 0)))))),
  (ad 9, .inl (cs 0, 72, .inl (gA σ 0))),
  (ad 10, .inl (cs 0, 72, .inl (gA σ 1))),
  (ad 11, .inl (cs 1, 72, .inl (gA σ 2))),
  (ad 12, .inl (cs 4, 12, .inr (.inr (.inr (.inr (gR σ 1)))))),
  (ad 13, .inl (cs 0, 12, .inl (gA σ 3))),
  (ad 14, .inl (cs 0, 12, .inl (gA σ 4))),
  (ad 15, .inl (cs 0, 6, .inl (gA σ 5))),
  (ad 16, .inl (cs 0, 6, .inl (gA σ 6))),
  (ad 17, .inl (cs 0, 64, .inl (gA σ 7))),
  (ad 18, .inr (10, [.ref (ad 19), .ref (ad 20), .ref (ad 21), .ref (ad 22), .ref (ad 23), .ref (ad 24), .ref (ad 25), .int (gI σ 21), .int (gI σ 22), .ref (ad 26), .ref (ad 27), .ref (ad 28), .ref (ad 29), .ref (ad 30), .ref (ad 31), .int (gI σ 23), .int (gI σ 24), .ref (ad 32), .ref (ad 33), .ref (ad 34), .ref (ad 35), .ref (ad 36), .ref (ad 37), .int (gI σ 25), .int (gI σ 26), .int (gI σ 27), .int (gI σ 28), .int (gI σ 29), .int (gI σ 30), .int (gI σ 31), .ref (ad 38), .ref (ad 39), .ref (ad 40), .ref (ad 41), .ref (ad 42), .int (gI σ 32), .long (gL σ 0), .long (gL σ 1), .ref (ad 43)])),
  (ad 19, .inl (cs 1, 6, .inl (gA σ 8))),
  (ad 20, .inl (cs 0, 6, .inl (gA σ 9))),
  (ad 21, .inl (cs 0, 6, .inl (gA σ 10))),
  (ad 22, .inl (cs 0, 6, .inl (gA σ 11))),
  (ad 23, .inl (cs 0, 72, .inl (gA σ 12))),
  (ad 24, .inl (cs 0, 72, .inl (gA σ 13))),
  (ad 25, .inl (cs 1, 72, .inl (gA σ 14))),
  (ad 26, .inl (cs 0, 12, .inl (gA σ 15))),
  (ad 27, .inl (cs 0, 12, .inl (gA σ 16))),
  (ad 28, .inl (cs 0, 12, .inl (gA σ 17))),
  (ad 29, .inl (cs 0, 12, .inl (gA σ 18))),
  (ad 30, .inl (cs 0, 12, .inl (gA σ 19))),
  (ad 31, .inl (cs 0, 12, .inl (gA σ 20))),
  (ad 32, .inl (cs 0, 6, .inl (gA σ 21))),
  (ad 33, .inl (cs 0, 6, .inl (gA σ 22))),
  (ad 34, .inl (cs 0, 6, .inl (gA σ 23))),
  (ad 35, .inl (cs 0, 6, .inl (gA σ 24))),
  (ad 36, .inl (cs 0, 6, .inl (gA σ 25))),
  (ad 37, .inl (cs 0, 6, .inl (gA σ 26))),
  (ad 38, .inl (cs 0, 12, .inl (gA σ 27))),
  (ad 39, .inl (cs 0, 12, .inl (gA σ 28))),
  (ad 40, .inl (cs 1, 12, .inl (gA σ 29))),
  (ad 41, .inl (cs 1, 12, .inl (gA σ 30))),
  (ad 42, .inl (cs 2, 6, .inr (.inl (gV σ)))),
  (ad 43, .inl (cs 0, 4, .inl (gA σ 31)))]
def wfm (ad : Nat → Nat) (cs : Nat → ClassId) (σ : ST) : va_W := wfx ad cs σ ++ va_pl (pL σ) (pfn cs σ)
section STROWS
variable {X : JX} {l0 : Launch} {D0 : va_G} {ad : Nat → Nat} {cs : Nat → ClassId} {eE : Nat × Nat} {cc : ByteArray} {own : String} {nL : Nat} {cd : Cond} {fr lo ce sl k n : Nat} {σ σ' : ST} {pc : Nat} {loc : List (Nat × Value)} {rest : List Value}
theorem up_inB {w : Cond} {ws : List Cond} (h : ∀ w ∈ ws, w ∈ BIG) : ∀ w ∈ ws, w ∈ cd :: BIG := fun w hw => List.mem_cons_of_mem _ (h w hw)
theorem rdp1 {q : Nat} (h : q ∈ pL σ ∧ pK σ q = 1) : Rd (wfm ad cs σ) q (pe1 (pP σ q)) := by
  obtain ⟨k, hk⟩ := va_pl_get (X := wfx ad cs σ) (f := pfn cs σ) h.1
  refine ⟨k, hk.trans ?_⟩
  unfold pfn
  rw [if_pos h.2]
theorem rdp2 {q : Nat} (h : q ∈ pL σ ∧ pK σ q = 2) : Rd (wfm ad cs σ) q (pe2 (pP σ q)) := by
  obtain ⟨k, hk⟩ := va_pl_get (X := wfx ad cs σ) (f := pfn cs σ) h.1
  refine ⟨k, hk.trans ?_⟩
  unfold pfn
  rw [if_neg (by rw [h.2]; decide), if_pos h.2]
theorem rdp3 {q : Nat} (h : q ∈ pL σ ∧ pK σ q = 3) : Rd (wfm ad cs σ) q (pe3 (pP σ q)) := by
  obtain ⟨k, hk⟩ := va_pl_get (X := wfx ad cs σ) (f := pfn cs σ) h.1
  refine ⟨k, hk.trans ?_⟩
  unfold pfn
  rw [if_neg (by rw [h.2]; decide), if_neg (by rw [h.2]; decide), if_pos h.2]
theorem rdp0 {q : Nat} (h : q ∈ pL σ ∧ pK σ q = 0) : Rd (wfm ad cs σ) q (pe0 (cs 5) (pC σ q) (pR σ q)) := by
  obtain ⟨k, hk⟩ := va_pl_get (X := wfx ad cs σ) (f := pfn cs σ) h.1
  refine ⟨k, hk.trans ?_⟩
  unfold pfn
  rw [if_neg (by rw [h.2]; decide), if_neg (by rw [h.2]; decide), if_neg (by rw [h.2]; decide)]
/-- a pooled cell is written: the fixed cells stay, the others of the pool too -/
theorem wrp {q : Nat} {e e' : va_E} (hq : q ∈ pL σ) (he : pfn cs σ q = e) (hx : wfx ad cs σ' = wfx ad cs σ) (hL : pL σ' = pL σ) (hs : pfn cs σ' q = e') (ho : ∀ a, a ≠ q → pfn cs σ' a = pfn cs σ a) : Wr (wfm ad cs σ) q e e' (wfm ad cs σ') := by
  intro A hD
  obtain ⟨k, hk⟩ := va_pl_get (X := wfx ad cs σ) (f := pfn cs σ) hq
  refine ⟨k, by rw [← he]; exact hk, ?_⟩
  show (wfx ad cs σ ++ va_pl (pL σ) (pfn cs σ)).set k (q, e') = _
  rw [va_pl_set (e := e') hD hq hk]
  unfold wfm
  rw [hx, hL]
  congr 1
  apply va_pl_congr
  intro a
  by_cases ha : a = q
  · subst ha
    rw [va_up_self, hs]
  · rw [va_up_ne _ _ ha, ho a ha]
theorem wrp1 {q j : Nat} {v : Int32} (h : q ∈ pL σ ∧ pK σ q = 1) : Wr (wfm ad cs σ) q (pe1 (pP σ q)) (pe1 (upd (pP σ q) j v)) (wfm ad cs (sP σ q j v)) := by
  refine wrp h.1 ?_ rfl rfl ?_ (fun a ha => ?_)
  · unfold pfn
    rw [if_pos h.2]
  · have hk : pK (sP σ q j v) q = 1 := h.2
    have hp : pP (sP σ q j v) q = upd (pP σ q) j v := by
      show va_up _ q _ q = _
      rw [va_up_self]; rfl
    unfold pfn
    rw [if_pos hk, hp]
  · have hp : pP (sP σ q j v) a = pP σ a := by
      show va_up _ q _ a = _
      rw [va_up_ne _ _ ha]; rfl
    unfold pfn
    rw [hp]
    rfl
theorem wrp2 {q j : Nat} {v : Int32} (h : q ∈ pL σ ∧ pK σ q = 2) : Wr (wfm ad cs σ) q (pe2 (pP σ q)) (pe2 (upd (pP σ q) j v)) (wfm ad cs (sP σ q j v)) := by
  refine wrp h.1 ?_ rfl rfl ?_ (fun a ha => ?_)
  · unfold pfn
    rw [if_neg (by rw [h.2]; decide), if_pos h.2]
  · have hk : pK (sP σ q j v) q = 2 := h.2
    have hp : pP (sP σ q j v) q = upd (pP σ q) j v := by
      show va_up _ q _ q = _
      rw [va_up_self]; rfl
    unfold pfn
    rw [if_neg (by rw [hk]; decide), if_pos hk, hp]
  · have hp : pP (sP σ q j v) a = pP σ a := by
      show va_up _ q _ a = _
      rw [va_up_ne _ _ ha]; rfl
    unfold pfn
    rw [hp]
    rfl
theorem wrp3 {q j : Nat} {v : Int32} (h : q ∈ pL σ ∧ pK σ q = 3) : Wr (wfm ad cs σ) q (pe3 (pP σ q)) (pe3 (upd (pP σ q) j v)) (wfm ad cs (sP σ q j v)) := by
  refine wrp h.1 ?_ rfl rfl ?_ (fun a ha => ?_)
  · unfold pfn
    rw [if_neg (by rw [h.2]; decide), if_neg (by rw [h.2]; decide), if_pos h.2]
  · have hk : pK (sP σ q j v) q = 3 := h.2
    have hp : pP (sP σ q j v) q = upd (pP σ q) j v := by
      show va_up _ q _ q = _
      rw [va_up_self]; rfl
    unfold pfn
    rw [if_neg (by rw [hk]; decide), if_neg (by rw [hk]; decide), if_pos hk, hp]
  · have hp : pP (sP σ q j v) a = pP σ a := by
      show va_up _ q _ a = _
      rw [va_up_ne _ _ ha]; rfl
    unfold pfn
    rw [hp]
    rfl
theorem wrp0 {q : Nat} {f : Nat → Option Nat} (h : q ∈ pL σ ∧ pK σ q = 0) : Wr (wfm ad cs σ) q (pe0 (cs 5) (pC σ q) (pR σ q)) (pe0 (cs 5) (pC σ q) f) (wfm ad cs (sF σ q f)) := by
  refine wrp h.1 ?_ rfl rfl ?_ (fun a ha => ?_)
  · unfold pfn
    rw [if_neg (by rw [h.2]; decide), if_neg (by rw [h.2]; decide), if_neg (by rw [h.2]; decide)]
  · have hk : pK (sF σ q f) q = 0 := h.2
    have hp : pR (sF σ q f) q = f := by
      show va_up _ q _ q = _
      rw [va_up_self]
    unfold pfn
    rw [if_neg (by rw [hk]; decide), if_neg (by rw [hk]; decide), if_neg (by rw [hk]; decide), hp]
    rfl
  · have hp : pR (sF σ q f) a = pR σ a := by
      show va_up _ q _ a = _
      rw [va_up_ne _ _ ha]; rfl
    unfold pfn
    rw [hp]
    rfl
theorem g_TL_state (C : JC X l0 D0 (ttf cs) eE cc own nL (cd :: BIG) fr lo ce sl) {ix : Nat} (hw : Cond.fieldLink own ix "TollLedger" "state" "LTollLedger$State;" ∈ cd :: BIG) (hd : decode cc pc = .ok (.getfield ix, 3)) (kk : J (wfm ad cs) X nL k n σ (pc + 3) loc (.ref (ad 1) :: rest)) : J (wfm ad cs) X nL k n σ pc loc (.ref (ad 0) :: rest) :=
  j_get (T := T_TL) (N := 10) (Cn := "TollLedger") (ci := 0) (j := 0) C (fun w h => List.mem_cons_of_mem _ (in_TL w h)) ⟨0, rfl⟩ rfl (by decide) hw (Or.inl rfl) rfl hd kk
theorem g_TL_taking (C : JC X l0 D0 (ttf cs) eE cc own nL (cd :: BIG) fr lo ce sl) {ix : Nat} (hw : Cond.fieldLink own ix "TollLedger" "taking" "LTollLedger$Taking;" ∈ cd :: BIG) (hd : decode cc pc = .ok (.getfield ix, 3)) (kk : J (wfm ad cs) X nL k n σ (pc + 3) loc (.ref (ad 4) :: rest)) : J (wfm ad cs) X nL k n σ pc loc (.ref (ad 0) :: rest) :=
  j_get (T := T_TL) (N := 10) (Cn := "TollLedger") (ci := 0) (j := 1) C (fun w h => List.mem_cons_of_mem _ (in_TL w h)) ⟨0, rfl⟩ rfl (by decide) hw (Or.inl rfl) rfl hd kk
theorem g_TL_leaves (C : JC X l0 D0 (ttf cs) eE cc own nL (cd :: BIG) fr lo ce sl) {ix : Nat} (hw : Cond.fieldLink own ix "TollLedger" "leaves" "LTollLedger$Leaves;" ∈ cd :: BIG) (hd : decode cc pc = .ok (.getfield ix, 3)) (kk : J (wfm ad cs) X nL k n σ (pc + 3) loc (.ref (ad 5) :: rest)) : J (wfm ad cs) X nL k n σ pc loc (.ref (ad 0) :: rest) :=
  j_get (T := T_TL) (N := 10) (Cn := "TollLedger") (ci := 0) (j := 2) C (fun w h => List.mem_cons_of_mem _ (in_TL w h)) ⟨0, rfl⟩ rfl (by decide) hw (Or.inl rfl) rfl hd kk
theorem g_TL_signer (C : JC X l0 D0 (ttf cs) eE cc own nL (cd :: BIG) fr lo ce sl) {ix : Nat} (hw : Cond.fieldLink own ix "TollLedger" "signer" "I" ∈ cd :: BIG) (hd : decode cc pc = .ok (.getfield ix, 3)) (kk : J (wfm ad cs) X nL k n σ (pc + 3) loc (.int (gI σ 0) :: rest)) : J (wfm ad cs) X nL k n σ pc loc (.ref (ad 0) :: rest) :=
  j_get (T := T_TL) (N := 10) (Cn := "TollLedger") (ci := 0) (j := 3) C (fun w h => List.mem_cons_of_mem _ (in_TL w h)) ⟨0, rfl⟩ rfl (by decide) hw (Or.inl rfl) rfl hd kk
theorem p_TL_signer (C : JC X l0 D0 (ttf cs) eE cc own nL (cd :: BIG) fr lo ce sl) {ix : Nat} {v : Int32} (e : σ' = sI σ 0 v) (hw : Cond.fieldLink own ix "TollLedger" "signer" "I" ∈ cd :: BIG) (hd : decode cc pc = .ok (.putfield ix, 3)) (kk : J (wfm ad cs) X nL k n σ' (pc + 3) loc (rest)) : J (wfm ad cs) X nL k n σ pc loc (.int v :: .ref (ad 0) :: rest) := by
  subst e
  exact j_put (T := T_TL) (N := 10) (Cn := "TollLedger") (ci := 0) (j := 3) (ty := .int) C (fun w h => List.mem_cons_of_mem _ (in_TL w h)) tk_TL nm_TL (fun _ _ => ⟨0, rfl, rfl⟩) rfl (by decide) hw (Or.inl rfl) rfl (by decide +kernel) rfl rfl (Nat.le_of_ble_eq_true rfl) hd kk
theorem g_TL_signedNumber (C : JC X l0 D0 (ttf cs) eE cc own nL (cd :: BIG) fr lo ce sl) {ix : Nat} (hw : Cond.fieldLink own ix "TollLedger" "signedNumber" "I" ∈ cd :: BIG) (hd : decode cc pc = .ok (.getfield ix, 3)) (kk : J (wfm ad cs) X nL k n σ (pc + 3) loc (.int (gI σ 1) :: rest)) : J (wfm ad cs) X nL k n σ pc loc (.ref (ad 0) :: rest) :=
  j_get (T := T_TL) (N := 10) (Cn := "TollLedger") (ci := 0) (j := 4) C (fun w h => List.mem_cons_of_mem _ (in_TL w h)) ⟨0, rfl⟩ rfl (by decide) hw (Or.inl rfl) rfl hd kk
theorem p_TL_signedNumber (C : JC X l0 D0 (ttf cs) eE cc own nL (cd :: BIG) fr lo ce sl) {ix : Nat} {v : Int32} (e : σ' = sI σ 1 v) (hw : Cond.fieldLink own ix "TollLedger" "signedNumber" "I" ∈ cd :: BIG) (hd : decode cc pc = .ok (.putfield ix, 3)) (kk : J (wfm ad cs) X nL k n σ' (pc + 3) loc (rest)) : J (wfm ad cs) X nL k n σ pc loc (.int v :: .ref (ad 0) :: rest) := by
  subst e
  exact j_put (T := T_TL) (N := 10) (Cn := "TollLedger") (ci := 0) (j := 4) (ty := .int) C (fun w h => List.mem_cons_of_mem _ (in_TL w h)) tk_TL nm_TL (fun _ _ => ⟨0, rfl, rfl⟩) rfl (by decide) hw (Or.inl rfl) rfl (by decide +kernel) rfl rfl (Nat.le_of_ble_eq_true rfl) hd kk
theorem g_TL_spendAsset (C : JC X l0 D0 (ttf cs) eE cc own nL (cd :: BIG) fr lo ce sl) {ix : Nat} (hw : Cond.fieldLink own ix "TollLedger" "spendAsset" "I" ∈ cd :: BIG) (hd : decode cc pc = .ok (.getfield ix, 3)) (kk : J (wfm ad cs) X nL k n σ (pc + 3) loc (.int (gI σ 2) :: rest)) : J (wfm ad cs) X nL k n σ pc loc (.ref (ad 0) :: rest) :=
  j_get (T := T_TL) (N := 10) (Cn := "TollLedger") (ci := 0) (j := 5) C (fun w h => List.mem_cons_of_mem _ (in_TL w h)) ⟨0, rfl⟩ rfl (by decide) hw (Or.inl rfl) rfl hd kk
theorem p_TL_spendAsset (C : JC X l0 D0 (ttf cs) eE cc own nL (cd :: BIG) fr lo ce sl) {ix : Nat} {v : Int32} (e : σ' = sI σ 2 v) (hw : Cond.fieldLink own ix "TollLedger" "spendAsset" "I" ∈ cd :: BIG) (hd : decode cc pc = .ok (.putfield ix, 3)) (kk : J (wfm ad cs) X nL k n σ' (pc + 3) loc (rest)) : J (wfm ad cs) X nL k n σ pc loc (.int v :: .ref (ad 0) :: rest) := by
  subst e
  exact j_put (T := T_TL) (N := 10) (Cn := "TollLedger") (ci := 0) (j := 5) (ty := .int) C (fun w h => List.mem_cons_of_mem _ (in_TL w h)) tk_TL nm_TL (fun _ _ => ⟨0, rfl, rfl⟩) rfl (by decide) hw (Or.inl rfl) rfl (by decide +kernel) rfl rfl (Nat.le_of_ble_eq_true rfl) hd kk
theorem g_TL_spendMax (C : JC X l0 D0 (ttf cs) eE cc own nL (cd :: BIG) fr lo ce sl) {ix : Nat} (hw : Cond.fieldLink own ix "TollLedger" "spendMax" "I" ∈ cd :: BIG) (hd : decode cc pc = .ok (.getfield ix, 3)) (kk : J (wfm ad cs) X nL k n σ (pc + 3) loc (.int (gI σ 3) :: rest)) : J (wfm ad cs) X nL k n σ pc loc (.ref (ad 0) :: rest) :=
  j_get (T := T_TL) (N := 10) (Cn := "TollLedger") (ci := 0) (j := 6) C (fun w h => List.mem_cons_of_mem _ (in_TL w h)) ⟨0, rfl⟩ rfl (by decide) hw (Or.inl rfl) rfl hd kk
theorem p_TL_spendMax (C : JC X l0 D0 (ttf cs) eE cc own nL (cd :: BIG) fr lo ce sl) {ix : Nat} {v : Int32} (e : σ' = sI σ 3 v) (hw : Cond.fieldLink own ix "TollLedger" "spendMax" "I" ∈ cd :: BIG) (hd : decode cc pc = .ok (.putfield ix, 3)) (kk : J (wfm ad cs) X nL k n σ' (pc + 3) loc (rest)) : J (wfm ad cs) X nL k n σ pc loc (.int v :: .ref (ad 0) :: rest) := by
  subst e
  exact j_put (T := T_TL) (N := 10) (Cn := "TollLedger") (ci := 0) (j := 6) (ty := .int) C (fun w h => List.mem_cons_of_mem _ (in_TL w h)) tk_TL nm_TL (fun _ _ => ⟨0, rfl, rfl⟩) rfl (by decide) hw (Or.inl rfl) rfl (by decide +kernel) rfl rfl (Nat.le_of_ble_eq_true rfl) hd kk
theorem g_TL_spendPartial (C : JC X l0 D0 (ttf cs) eE cc own nL (cd :: BIG) fr lo ce sl) {ix : Nat} (hw : Cond.fieldLink own ix "TollLedger" "spendPartial" "Z" ∈ cd :: BIG) (hd : decode cc pc = .ok (.getfield ix, 3)) (kk : J (wfm ad cs) X nL k n σ (pc + 3) loc (.int (gI σ 4) :: rest)) : J (wfm ad cs) X nL k n σ pc loc (.ref (ad 0) :: rest) :=
  j_get (T := T_TL) (N := 10) (Cn := "TollLedger") (ci := 0) (j := 7) C (fun w h => List.mem_cons_of_mem _ (in_TL w h)) ⟨0, rfl⟩ rfl (by decide) hw (Or.inl rfl) rfl hd kk
theorem p_TL_spendPartial (C : JC X l0 D0 (ttf cs) eE cc own nL (cd :: BIG) fr lo ce sl) {ix : Nat} {v : Int32} (hz : v = 0 ∨ v = 1) (e : σ' = sI σ 4 v) (hw : Cond.fieldLink own ix "TollLedger" "spendPartial" "Z" ∈ cd :: BIG) (hd : decode cc pc = .ok (.putfield ix, 3)) (kk : J (wfm ad cs) X nL k n σ' (pc + 3) loc (rest)) : J (wfm ad cs) X nL k n σ pc loc (.int v :: .ref (ad 0) :: rest) := by
  subst e
  exact j_put (T := T_TL) (N := 10) (Cn := "TollLedger") (ci := 0) (j := 7) (ty := .boolean) C (fun w h => List.mem_cons_of_mem _ (in_TL w h)) tk_TL nm_TL (fun _ _ => ⟨0, rfl, rfl⟩) rfl (by decide) hw (Or.inl rfl) rfl (by decide +kernel) (by rcases hz with rfl | rfl <;> rfl) (by rcases hz with rfl | rfl <;> rfl) (Nat.le_of_ble_eq_true rfl) hd kk
theorem g_TL_clock (C : JC X l0 D0 (ttf cs) eE cc own nL (cd :: BIG) fr lo ce sl) {ix : Nat} (hw : Cond.fieldLink own ix "TollLedger" "clock" "I" ∈ cd :: BIG) (hd : decode cc pc = .ok (.getfield ix, 3)) (kk : J (wfm ad cs) X nL k n σ (pc + 3) loc (.int (gI σ 5) :: rest)) : J (wfm ad cs) X nL k n σ pc loc (.ref (ad 0) :: rest) :=
  j_get (T := T_TL) (N := 10) (Cn := "TollLedger") (ci := 0) (j := 8) C (fun w h => List.mem_cons_of_mem _ (in_TL w h)) ⟨0, rfl⟩ rfl (by decide) hw (Or.inl rfl) rfl hd kk
theorem p_TL_clock (C : JC X l0 D0 (ttf cs) eE cc own nL (cd :: BIG) fr lo ce sl) {ix : Nat} {v : Int32} (e : σ' = sI σ 5 v) (hw : Cond.fieldLink own ix "TollLedger" "clock" "I" ∈ cd :: BIG) (hd : decode cc pc = .ok (.putfield ix, 3)) (kk : J (wfm ad cs) X nL k n σ' (pc + 3) loc (rest)) : J (wfm ad cs) X nL k n σ pc loc (.int v :: .ref (ad 0) :: rest) := by
  subst e
  exact j_put (T := T_TL) (N := 10) (Cn := "TollLedger") (ci := 0) (j := 8) (ty := .int) C (fun w h => List.mem_cons_of_mem _ (in_TL w h)) tk_TL nm_TL (fun _ _ => ⟨0, rfl, rfl⟩) rfl (by decide) hw (Or.inl rfl) rfl (by decide +kernel) rfl rfl (Nat.le_of_ble_eq_true rfl) hd kk
theorem g_TL_burntCoins (C : JC X l0 D0 (ttf cs) eE cc own nL (cd :: BIG) fr lo ce sl) {ix : Nat} (hw : Cond.fieldLink own ix "TollLedger" "burntCoins" "I" ∈ cd :: BIG) (hd : decode cc pc = .ok (.getfield ix, 3)) (kk : J (wfm ad cs) X nL k n σ (pc + 3) loc (.int (gI σ 6) :: rest)) : J (wfm ad cs) X nL k n σ pc loc (.ref (ad 0) :: rest) :=
  j_get (T := T_TL) (N := 10) (Cn := "TollLedger") (ci := 0) (j := 9) C (fun w h => List.mem_cons_of_mem _ (in_TL w h)) ⟨0, rfl⟩ rfl (by decide) hw (Or.inl rfl) rfl hd kk
theorem p_TL_burntCoins (C : JC X l0 D0 (ttf cs) eE cc own nL (cd :: BIG) fr lo ce sl) {ix : Nat} {v : Int32} (e : σ' = sI σ 6 v) (hw : Cond.fieldLink own ix "TollLedger" "burntCoins" "I" ∈ cd :: BIG) (hd : decode cc pc = .ok (.putfield ix, 3)) (kk : J (wfm ad cs) X nL k n σ' (pc + 3) loc (rest)) : J (wfm ad cs) X nL k n σ pc loc (.int v :: .ref (ad 0) :: rest) := by
  subst e
  exact j_put (T := T_TL) (N := 10) (Cn := "TollLedger") (ci := 0) (j := 9) (ty := .int) C (fun w h => List.mem_cons_of_mem _ (in_TL w h)) tk_TL nm_TL (fun _ _ => ⟨0, rfl, rfl⟩) rfl (by decide) hw (Or.inl rfl) rfl (by decide +kernel) rfl rfl (Nat.le_of_ble_eq_true rfl) hd kk
theorem g_ST_accounts (C : JC X l0 D0 (ttf cs) eE cc own nL (cd :: BIG) fr lo ce sl) {ix : Nat} (hw : Cond.fieldLink own ix "TollLedger$State" "accounts" "[LTollLedger$Account;" ∈ cd :: BIG) (hd : decode cc pc = .ok (.getfield ix, 3)) (kk : J (wfm ad cs) X nL k n σ (pc + 3) loc (.ref (ad 8) :: rest)) : J (wfm ad cs) X nL k n σ pc loc (.ref (ad 1) :: rest) :=
  j_get (T := T_ST) (N := 6) (Cn := "TollLedger$State") (ci := 1) (j := 0) C (fun w h => List.mem_cons_of_mem _ (in_ST w h)) ⟨1, rfl⟩ rfl (by decide) hw (Or.inl rfl) rfl hd kk
theorem g_ST_lines (C : JC X l0 D0 (ttf cs) eE cc own nL (cd :: BIG) fr lo ce sl) {ix : Nat} (hw : Cond.fieldLink own ix "TollLedger$State" "lines" "LTollLedger$Lines;" ∈ cd :: BIG) (hd : decode cc pc = .ok (.getfield ix, 3)) (kk : J (wfm ad cs) X nL k n σ (pc + 3) loc (.ref (ad 2) :: rest)) : J (wfm ad cs) X nL k n σ pc loc (.ref (ad 1) :: rest) :=
  j_get (T := T_ST) (N := 6) (Cn := "TollLedger$State") (ci := 1) (j := 1) C (fun w h => List.mem_cons_of_mem _ (in_ST w h)) ⟨1, rfl⟩ rfl (by decide) hw (Or.inl rfl) rfl hd kk
theorem g_ST_offers (C : JC X l0 D0 (ttf cs) eE cc own nL (cd :: BIG) fr lo ce sl) {ix : Nat} (hw : Cond.fieldLink own ix "TollLedger$State" "offers" "Ljava/util/ArrayList;" ∈ cd :: BIG) (hd : decode cc pc = .ok (.getfield ix, 3)) (kk : J (wfm ad cs) X nL k n σ (pc + 3) loc (.ref (ad 6) :: rest)) : J (wfm ad cs) X nL k n σ pc loc (.ref (ad 1) :: rest) :=
  j_get (T := T_ST) (N := 6) (Cn := "TollLedger$State") (ci := 1) (j := 2) C (fun w h => List.mem_cons_of_mem _ (in_ST w h)) ⟨1, rfl⟩ rfl (by decide) hw (Or.inl rfl) rfl hd kk
theorem g_ST_deposits (C : JC X l0 D0 (ttf cs) eE cc own nL (cd :: BIG) fr lo ce sl) {ix : Nat} (hw : Cond.fieldLink own ix "TollLedger$State" "deposits" "Ljava/util/ArrayList;" ∈ cd :: BIG) (hd : decode cc pc = .ok (.getfield ix, 3)) (kk : J (wfm ad cs) X nL k n σ (pc + 3) loc (.ref (ad 7) :: rest)) : J (wfm ad cs) X nL k n σ pc loc (.ref (ad 1) :: rest) :=
  j_get (T := T_ST) (N := 6) (Cn := "TollLedger$State") (ci := 1) (j := 3) C (fun w h => List.mem_cons_of_mem _ (in_ST w h)) ⟨1, rfl⟩ rfl (by decide) hw (Or.inl rfl) rfl hd kk
theorem g_ST_lastOfferId (C : JC X l0 D0 (ttf cs) eE cc own nL (cd :: BIG) fr lo ce sl) {ix : Nat} (hw : Cond.fieldLink own ix "TollLedger$State" "lastOfferId" "I" ∈ cd :: BIG) (hd : decode cc pc = .ok (.getfield ix, 3)) (kk : J (wfm ad cs) X nL k n σ (pc + 3) loc (.int (gI σ 7) :: rest)) : J (wfm ad cs) X nL k n σ pc loc (.ref (ad 1) :: rest) :=
  j_get (T := T_ST) (N := 6) (Cn := "TollLedger$State") (ci := 1) (j := 4) C (fun w h => List.mem_cons_of_mem _ (in_ST w h)) ⟨1, rfl⟩ rfl (by decide) hw (Or.inl rfl) rfl hd kk
theorem p_ST_lastOfferId (C : JC X l0 D0 (ttf cs) eE cc own nL (cd :: BIG) fr lo ce sl) {ix : Nat} {v : Int32} (e : σ' = sI σ 7 v) (hw : Cond.fieldLink own ix "TollLedger$State" "lastOfferId" "I" ∈ cd :: BIG) (hd : decode cc pc = .ok (.putfield ix, 3)) (kk : J (wfm ad cs) X nL k n σ' (pc + 3) loc (rest)) : J (wfm ad cs) X nL k n σ pc loc (.int v :: .ref (ad 1) :: rest) := by
  subst e
  exact j_put (T := T_ST) (N := 6) (Cn := "TollLedger$State") (ci := 1) (j := 4) (ty := .int) C (fun w h => List.mem_cons_of_mem _ (in_ST w h)) tk_ST nm_ST (fun _ _ => ⟨1, rfl, rfl⟩) rfl (by decide) hw (Or.inl rfl) rfl (by decide +kernel) rfl rfl (Nat.le_of_ble_eq_true rfl) hd kk
theorem g_ST_lastDepositId (C : JC X l0 D0 (ttf cs) eE cc own nL (cd :: BIG) fr lo ce sl) {ix : Nat} (hw : Cond.fieldLink own ix "TollLedger$State" "lastDepositId" "I" ∈ cd :: BIG) (hd : decode cc pc = .ok (.getfield ix, 3)) (kk : J (wfm ad cs) X nL k n σ (pc + 3) loc (.int (gI σ 8) :: rest)) : J (wfm ad cs) X nL k n σ pc loc (.ref (ad 1) :: rest) :=
  j_get (T := T_ST) (N := 6) (Cn := "TollLedger$State") (ci := 1) (j := 5) C (fun w h => List.mem_cons_of_mem _ (in_ST w h)) ⟨1, rfl⟩ rfl (by decide) hw (Or.inl rfl) rfl hd kk
theorem p_ST_lastDepositId (C : JC X l0 D0 (ttf cs) eE cc own nL (cd :: BIG) fr lo ce sl) {ix : Nat} {v : Int32} (e : σ' = sI σ 8 v) (hw : Cond.fieldLink own ix "TollLedger$State" "lastDepositId" "I" ∈ cd :: BIG) (hd : decode cc pc = .ok (.putfield ix, 3)) (kk : J (wfm ad cs) X nL k n σ' (pc + 3) loc (rest)) : J (wfm ad cs) X nL k n σ pc loc (.int v :: .ref (ad 1) :: rest) := by
  subst e
  exact j_put (T := T_ST) (N := 6) (Cn := "TollLedger$State") (ci := 1) (j := 5) (ty := .int) C (fun w h => List.mem_cons_of_mem _ (in_ST w h)) tk_ST nm_ST (fun _ _ => ⟨1, rfl, rfl⟩) rfl (by decide) hw (Or.inl rfl) rfl (by decide +kernel) rfl rfl (Nat.le_of_ble_eq_true rfl) hd kk
theorem g_LN_balances (C : JC X l0 D0 (ttf cs) eE cc own nL (cd :: BIG) fr lo ce sl) {ix : Nat} (hw : Cond.fieldLink own ix "TollLedger$Lines" "balances" "[I" ∈ cd :: BIG) (hd : decode cc pc = .ok (.getfield ix, 3)) (kk : J (wfm ad cs) X nL k n σ (pc + 3) loc (.ref (ad 9) :: rest)) : J (wfm ad cs) X nL k n σ pc loc (.ref (ad 2) :: rest) :=
  j_get (T := T_LN) (N := 3) (Cn := "TollLedger$Lines") (ci := 2) (j := 0) C (fun w h => List.mem_cons_of_mem _ (in_LN w h)) ⟨2, rfl⟩ rfl (by decide) hw (Or.inl rfl) rfl hd kk
theorem g_LN_limits (C : JC X l0 D0 (ttf cs) eE cc own nL (cd :: BIG) fr lo ce sl) {ix : Nat} (hw : Cond.fieldLink own ix "TollLedger$Lines" "limits" "[I" ∈ cd :: BIG) (hd : decode cc pc = .ok (.getfield ix, 3)) (kk : J (wfm ad cs) X nL k n σ (pc + 3) loc (.ref (ad 10) :: rest)) : J (wfm ad cs) X nL k n σ pc loc (.ref (ad 2) :: rest) :=
  j_get (T := T_LN) (N := 3) (Cn := "TollLedger$Lines") (ci := 2) (j := 1) C (fun w h => List.mem_cons_of_mem _ (in_LN w h)) ⟨2, rfl⟩ rfl (by decide) hw (Or.inl rfl) rfl hd kk
theorem g_LN_quiets (C : JC X l0 D0 (ttf cs) eE cc own nL (cd :: BIG) fr lo ce sl) {ix : Nat} (hw : Cond.fieldLink own ix "TollLedger$Lines" "quiets" "[Z" ∈ cd :: BIG) (hd : decode cc pc = .ok (.getfield ix, 3)) (kk : J (wfm ad cs) X nL k n σ (pc + 3) loc (.ref (ad 11) :: rest)) : J (wfm ad cs) X nL k n σ pc loc (.ref (ad 2) :: rest) :=
  j_get (T := T_LN) (N := 3) (Cn := "TollLedger$Lines") (ci := 2) (j := 2) C (fun w h => List.mem_cons_of_mem _ (in_LN w h)) ⟨2, rfl⟩ rfl (by decide) hw (Or.inl rfl) rfl hd kk
theorem g_BK_row (C : JC X l0 D0 (ttf cs) eE cc own nL (cd :: BIG) fr lo ce sl) {ix : Nat} (hw : Cond.fieldLink own ix "TollLedger$Book" "row" "[LTollLedger$Offer;" ∈ cd :: BIG) (hd : decode cc pc = .ok (.getfield ix, 3)) (kk : J (wfm ad cs) X nL k n σ (pc + 3) loc (.ref (ad 12) :: rest)) : J (wfm ad cs) X nL k n σ pc loc (.ref (ad 3) :: rest) :=
  j_get (T := T_BK) (N := 2) (Cn := "TollLedger$Book") (ci := 3) (j := 0) C (fun w h => List.mem_cons_of_mem _ (in_BK w h)) ⟨3, rfl⟩ rfl (by decide) hw (Or.inl rfl) rfl hd kk
theorem g_BK_size (C : JC X l0 D0 (ttf cs) eE cc own nL (cd :: BIG) fr lo ce sl) {ix : Nat} (hw : Cond.fieldLink own ix "TollLedger$Book" "size" "I" ∈ cd :: BIG) (hd : decode cc pc = .ok (.getfield ix, 3)) (kk : J (wfm ad cs) X nL k n σ (pc + 3) loc (.int (gI σ 9) :: rest)) : J (wfm ad cs) X nL k n σ pc loc (.ref (ad 3) :: rest) :=
  j_get (T := T_BK) (N := 2) (Cn := "TollLedger$Book") (ci := 3) (j := 1) C (fun w h => List.mem_cons_of_mem _ (in_BK w h)) ⟨3, rfl⟩ rfl (by decide) hw (Or.inl rfl) rfl hd kk
theorem p_BK_size (C : JC X l0 D0 (ttf cs) eE cc own nL (cd :: BIG) fr lo ce sl) {ix : Nat} {v : Int32} (e : σ' = sI σ 9 v) (hw : Cond.fieldLink own ix "TollLedger$Book" "size" "I" ∈ cd :: BIG) (hd : decode cc pc = .ok (.putfield ix, 3)) (kk : J (wfm ad cs) X nL k n σ' (pc + 3) loc (rest)) : J (wfm ad cs) X nL k n σ pc loc (.int v :: .ref (ad 3) :: rest) := by
  subst e
  exact j_put (T := T_BK) (N := 2) (Cn := "TollLedger$Book") (ci := 3) (j := 1) (ty := .int) C (fun w h => List.mem_cons_of_mem _ (in_BK w h)) tk_BK nm_BK (fun _ _ => ⟨3, rfl, rfl⟩) rfl (by decide) hw (Or.inl rfl) rfl (by decide +kernel) rfl rfl (Nat.le_of_ble_eq_true rfl) hd kk
theorem g_TK_state (C : JC X l0 D0 (ttf cs) eE cc own nL (cd :: BIG) fr lo ce sl) {ix : Nat} (hw : Cond.fieldLink own ix "TollLedger$Taking" "state" "LTollLedger$State;" ∈ cd :: BIG) (hd : decode cc pc = .ok (.getfield ix, 3)) (kk : J (wfm ad cs) X nL k n σ (pc + 3) loc (.ref (ad 1) :: rest)) : J (wfm ad cs) X nL k n σ pc loc (.ref (ad 4) :: rest) :=
  j_get (T := T_TK) (N := 13) (Cn := "TollLedger$Taking") (ci := 4) (j := 0) C (fun w h => List.mem_cons_of_mem _ (in_TK w h)) ⟨4, rfl⟩ rfl (by decide) hw (Or.inl rfl) rfl hd kk
theorem g_TK_book (C : JC X l0 D0 (ttf cs) eE cc own nL (cd :: BIG) fr lo ce sl) {ix : Nat} (hw : Cond.fieldLink own ix "TollLedger$Taking" "book" "LTollLedger$Book;" ∈ cd :: BIG) (hd : decode cc pc = .ok (.getfield ix, 3)) (kk : J (wfm ad cs) X nL k n σ (pc + 3) loc (.ref (ad 3) :: rest)) : J (wfm ad cs) X nL k n σ pc loc (.ref (ad 4) :: rest) :=
  j_get (T := T_TK) (N := 13) (Cn := "TollLedger$Taking") (ci := 4) (j := 1) C (fun w h => List.mem_cons_of_mem _ (in_TK w h)) ⟨4, rfl⟩ rfl (by decide) hw (Or.inl rfl) rfl hd kk
theorem g_TK_amounts (C : JC X l0 D0 (ttf cs) eE cc own nL (cd :: BIG) fr lo ce sl) {ix : Nat} (hw : Cond.fieldLink own ix "TollLedger$Taking" "amounts" "[I" ∈ cd :: BIG) (hd : decode cc pc = .ok (.getfield ix, 3)) (kk : J (wfm ad cs) X nL k n σ (pc + 3) loc (.ref (ad 13) :: rest)) : J (wfm ad cs) X nL k n σ pc loc (.ref (ad 4) :: rest) :=
  j_get (T := T_TK) (N := 13) (Cn := "TollLedger$Taking") (ci := 4) (j := 2) C (fun w h => List.mem_cons_of_mem _ (in_TK w h)) ⟨4, rfl⟩ rfl (by decide) hw (Or.inl rfl) rfl hd kk
theorem g_TK_prices (C : JC X l0 D0 (ttf cs) eE cc own nL (cd :: BIG) fr lo ce sl) {ix : Nat} (hw : Cond.fieldLink own ix "TollLedger$Taking" "prices" "[I" ∈ cd :: BIG) (hd : decode cc pc = .ok (.getfield ix, 3)) (kk : J (wfm ad cs) X nL k n σ (pc + 3) loc (.ref (ad 14) :: rest)) : J (wfm ad cs) X nL k n σ pc loc (.ref (ad 4) :: rest) :=
  j_get (T := T_TK) (N := 13) (Cn := "TollLedger$Taking") (ci := 4) (j := 3) C (fun w h => List.mem_cons_of_mem _ (in_TK w h)) ⟨4, rfl⟩ rfl (by decide) hw (Or.inl rfl) rfl hd kk
theorem g_TK_funds (C : JC X l0 D0 (ttf cs) eE cc own nL (cd :: BIG) fr lo ce sl) {ix : Nat} (hw : Cond.fieldLink own ix "TollLedger$Taking" "funds" "[I" ∈ cd :: BIG) (hd : decode cc pc = .ok (.getfield ix, 3)) (kk : J (wfm ad cs) X nL k n σ (pc + 3) loc (.ref (ad 15) :: rest)) : J (wfm ad cs) X nL k n σ pc loc (.ref (ad 4) :: rest) :=
  j_get (T := T_TK) (N := 13) (Cn := "TollLedger$Taking") (ci := 4) (j := 4) C (fun w h => List.mem_cons_of_mem _ (in_TK w h)) ⟨4, rfl⟩ rfl (by decide) hw (Or.inl rfl) rfl hd kk
theorem g_TK_purses (C : JC X l0 D0 (ttf cs) eE cc own nL (cd :: BIG) fr lo ce sl) {ix : Nat} (hw : Cond.fieldLink own ix "TollLedger$Taking" "purses" "[I" ∈ cd :: BIG) (hd : decode cc pc = .ok (.getfield ix, 3)) (kk : J (wfm ad cs) X nL k n σ (pc + 3) loc (.ref (ad 16) :: rest)) : J (wfm ad cs) X nL k n σ pc loc (.ref (ad 4) :: rest) :=
  j_get (T := T_TK) (N := 13) (Cn := "TollLedger$Taking") (ci := 4) (j := 5) C (fun w h => List.mem_cons_of_mem _ (in_TK w h)) ⟨4, rfl⟩ rfl (by decide) hw (Or.inl rfl) rfl hd kk
theorem g_TK_taker (C : JC X l0 D0 (ttf cs) eE cc own nL (cd :: BIG) fr lo ce sl) {ix : Nat} (hw : Cond.fieldLink own ix "TollLedger$Taking" "taker" "I" ∈ cd :: BIG) (hd : decode cc pc = .ok (.getfield ix, 3)) (kk : J (wfm ad cs) X nL k n σ (pc + 3) loc (.int (gI σ 10) :: rest)) : J (wfm ad cs) X nL k n σ pc loc (.ref (ad 4) :: rest) :=
  j_get (T := T_TK) (N := 13) (Cn := "TollLedger$Taking") (ci := 4) (j := 6) C (fun w h => List.mem_cons_of_mem _ (in_TK w h)) ⟨4, rfl⟩ rfl (by decide) hw (Or.inl rfl) rfl hd kk
theorem p_TK_taker (C : JC X l0 D0 (ttf cs) eE cc own nL (cd :: BIG) fr lo ce sl) {ix : Nat} {v : Int32} (e : σ' = sI σ 10 v) (hw : Cond.fieldLink own ix "TollLedger$Taking" "taker" "I" ∈ cd :: BIG) (hd : decode cc pc = .ok (.putfield ix, 3)) (kk : J (wfm ad cs) X nL k n σ' (pc + 3) loc (rest)) : J (wfm ad cs) X nL k n σ pc loc (.int v :: .ref (ad 4) :: rest) := by
  subst e
  exact j_put (T := T_TK) (N := 13) (Cn := "TollLedger$Taking") (ci := 4) (j := 6) (ty := .int) C (fun w h => List.mem_cons_of_mem _ (in_TK w h)) tk_TK nm_TK (fun _ _ => ⟨4, rfl, rfl⟩) rfl (by decide) hw (Or.inl rfl) rfl (by decide +kernel) rfl rfl (Nat.le_of_ble_eq_true rfl) hd kk
theorem g_TK_paid (C : JC X l0 D0 (ttf cs) eE cc own nL (cd :: BIG) fr lo ce sl) {ix : Nat} (hw : Cond.fieldLink own ix "TollLedger$Taking" "paid" "I" ∈ cd :: BIG) (hd : decode cc pc = .ok (.getfield ix, 3)) (kk : J (wfm ad cs) X nL k n σ (pc + 3) loc (.int (gI σ 11) :: rest)) : J (wfm ad cs) X nL k n σ pc loc (.ref (ad 4) :: rest) :=
  j_get (T := T_TK) (N := 13) (Cn := "TollLedger$Taking") (ci := 4) (j := 7) C (fun w h => List.mem_cons_of_mem _ (in_TK w h)) ⟨4, rfl⟩ rfl (by decide) hw (Or.inl rfl) rfl hd kk
theorem p_TK_paid (C : JC X l0 D0 (ttf cs) eE cc own nL (cd :: BIG) fr lo ce sl) {ix : Nat} {v : Int32} (e : σ' = sI σ 11 v) (hw : Cond.fieldLink own ix "TollLedger$Taking" "paid" "I" ∈ cd :: BIG) (hd : decode cc pc = .ok (.putfield ix, 3)) (kk : J (wfm ad cs) X nL k n σ' (pc + 3) loc (rest)) : J (wfm ad cs) X nL k n σ pc loc (.int v :: .ref (ad 4) :: rest) := by
  subst e
  exact j_put (T := T_TK) (N := 13) (Cn := "TollLedger$Taking") (ci := 4) (j := 7) (ty := .int) C (fun w h => List.mem_cons_of_mem _ (in_TK w h)) tk_TK nm_TK (fun _ _ => ⟨4, rfl, rfl⟩) rfl (by decide) hw (Or.inl rfl) rfl (by decide +kernel) rfl rfl (Nat.le_of_ble_eq_true rfl) hd kk
theorem g_TK_got (C : JC X l0 D0 (ttf cs) eE cc own nL (cd :: BIG) fr lo ce sl) {ix : Nat} (hw : Cond.fieldLink own ix "TollLedger$Taking" "got" "I" ∈ cd :: BIG) (hd : decode cc pc = .ok (.getfield ix, 3)) (kk : J (wfm ad cs) X nL k n σ (pc + 3) loc (.int (gI σ 12) :: rest)) : J (wfm ad cs) X nL k n σ pc loc (.ref (ad 4) :: rest) :=
  j_get (T := T_TK) (N := 13) (Cn := "TollLedger$Taking") (ci := 4) (j := 8) C (fun w h => List.mem_cons_of_mem _ (in_TK w h)) ⟨4, rfl⟩ rfl (by decide) hw (Or.inl rfl) rfl hd kk
theorem p_TK_got (C : JC X l0 D0 (ttf cs) eE cc own nL (cd :: BIG) fr lo ce sl) {ix : Nat} {v : Int32} (e : σ' = sI σ 12 v) (hw : Cond.fieldLink own ix "TollLedger$Taking" "got" "I" ∈ cd :: BIG) (hd : decode cc pc = .ok (.putfield ix, 3)) (kk : J (wfm ad cs) X nL k n σ' (pc + 3) loc (rest)) : J (wfm ad cs) X nL k n σ pc loc (.int v :: .ref (ad 4) :: rest) := by
  subst e
  exact j_put (T := T_TK) (N := 13) (Cn := "TollLedger$Taking") (ci := 4) (j := 8) (ty := .int) C (fun w h => List.mem_cons_of_mem _ (in_TK w h)) tk_TK nm_TK (fun _ _ => ⟨4, rfl, rfl⟩) rfl (by decide) hw (Or.inl rfl) rfl (by decide +kernel) rfl rfl (Nat.le_of_ble_eq_true rfl) hd kk
theorem g_TK_reached (C : JC X l0 D0 (ttf cs) eE cc own nL (cd :: BIG) fr lo ce sl) {ix : Nat} (hw : Cond.fieldLink own ix "TollLedger$Taking" "reached" "I" ∈ cd :: BIG) (hd : decode cc pc = .ok (.getfield ix, 3)) (kk : J (wfm ad cs) X nL k n σ (pc + 3) loc (.int (gI σ 13) :: rest)) : J (wfm ad cs) X nL k n σ pc loc (.ref (ad 4) :: rest) :=
  j_get (T := T_TK) (N := 13) (Cn := "TollLedger$Taking") (ci := 4) (j := 9) C (fun w h => List.mem_cons_of_mem _ (in_TK w h)) ⟨4, rfl⟩ rfl (by decide) hw (Or.inl rfl) rfl hd kk
theorem p_TK_reached (C : JC X l0 D0 (ttf cs) eE cc own nL (cd :: BIG) fr lo ce sl) {ix : Nat} {v : Int32} (e : σ' = sI σ 13 v) (hw : Cond.fieldLink own ix "TollLedger$Taking" "reached" "I" ∈ cd :: BIG) (hd : decode cc pc = .ok (.putfield ix, 3)) (kk : J (wfm ad cs) X nL k n σ' (pc + 3) loc (rest)) : J (wfm ad cs) X nL k n σ pc loc (.int v :: .ref (ad 4) :: rest) := by
  subst e
  exact j_put (T := T_TK) (N := 13) (Cn := "TollLedger$Taking") (ci := 4) (j := 9) (ty := .int) C (fun w h => List.mem_cons_of_mem _ (in_TK w h)) tk_TK nm_TK (fun _ _ => ⟨4, rfl, rfl⟩) rfl (by decide) hw (Or.inl rfl) rfl (by decide +kernel) rfl rfl (Nat.le_of_ble_eq_true rfl) hd kk
theorem g_TK_taken (C : JC X l0 D0 (ttf cs) eE cc own nL (cd :: BIG) fr lo ce sl) {ix : Nat} (hw : Cond.fieldLink own ix "TollLedger$Taking" "taken" "I" ∈ cd :: BIG) (hd : decode cc pc = .ok (.getfield ix, 3)) (kk : J (wfm ad cs) X nL k n σ (pc + 3) loc (.int (gI σ 14) :: rest)) : J (wfm ad cs) X nL k n σ pc loc (.ref (ad 4) :: rest) :=
  j_get (T := T_TK) (N := 13) (Cn := "TollLedger$Taking") (ci := 4) (j := 10) C (fun w h => List.mem_cons_of_mem _ (in_TK w h)) ⟨4, rfl⟩ rfl (by decide) hw (Or.inl rfl) rfl hd kk
theorem p_TK_taken (C : JC X l0 D0 (ttf cs) eE cc own nL (cd :: BIG) fr lo ce sl) {ix : Nat} {v : Int32} (e : σ' = sI σ 14 v) (hw : Cond.fieldLink own ix "TollLedger$Taking" "taken" "I" ∈ cd :: BIG) (hd : decode cc pc = .ok (.putfield ix, 3)) (kk : J (wfm ad cs) X nL k n σ' (pc + 3) loc (rest)) : J (wfm ad cs) X nL k n σ pc loc (.int v :: .ref (ad 4) :: rest) := by
  subst e
  exact j_put (T := T_TK) (N := 13) (Cn := "TollLedger$Taking") (ci := 4) (j := 10) (ty := .int) C (fun w h => List.mem_cons_of_mem _ (in_TK w h)) tk_TK nm_TK (fun _ _ => ⟨4, rfl, rfl⟩) rfl (by decide) hw (Or.inl rfl) rfl (by decide +kernel) rfl rfl (Nat.le_of_ble_eq_true rfl) hd kk
theorem g_TK_price (C : JC X l0 D0 (ttf cs) eE cc own nL (cd :: BIG) fr lo ce sl) {ix : Nat} (hw : Cond.fieldLink own ix "TollLedger$Taking" "price" "I" ∈ cd :: BIG) (hd : decode cc pc = .ok (.getfield ix, 3)) (kk : J (wfm ad cs) X nL k n σ (pc + 3) loc (.int (gI σ 15) :: rest)) : J (wfm ad cs) X nL k n σ pc loc (.ref (ad 4) :: rest) :=
  j_get (T := T_TK) (N := 13) (Cn := "TollLedger$Taking") (ci := 4) (j := 11) C (fun w h => List.mem_cons_of_mem _ (in_TK w h)) ⟨4, rfl⟩ rfl (by decide) hw (Or.inl rfl) rfl hd kk
theorem p_TK_price (C : JC X l0 D0 (ttf cs) eE cc own nL (cd :: BIG) fr lo ce sl) {ix : Nat} {v : Int32} (e : σ' = sI σ 15 v) (hw : Cond.fieldLink own ix "TollLedger$Taking" "price" "I" ∈ cd :: BIG) (hd : decode cc pc = .ok (.putfield ix, 3)) (kk : J (wfm ad cs) X nL k n σ' (pc + 3) loc (rest)) : J (wfm ad cs) X nL k n σ pc loc (.int v :: .ref (ad 4) :: rest) := by
  subst e
  exact j_put (T := T_TK) (N := 13) (Cn := "TollLedger$Taking") (ci := 4) (j := 11) (ty := .int) C (fun w h => List.mem_cons_of_mem _ (in_TK w h)) tk_TK nm_TK (fun _ _ => ⟨4, rfl, rfl⟩) rfl (by decide) hw (Or.inl rfl) rfl (by decide +kernel) rfl rfl (Nat.le_of_ble_eq_true rfl) hd kk
theorem g_TK_cost (C : JC X l0 D0 (ttf cs) eE cc own nL (cd :: BIG) fr lo ce sl) {ix : Nat} (hw : Cond.fieldLink own ix "TollLedger$Taking" "cost" "I" ∈ cd :: BIG) (hd : decode cc pc = .ok (.getfield ix, 3)) (kk : J (wfm ad cs) X nL k n σ (pc + 3) loc (.int (gI σ 16) :: rest)) : J (wfm ad cs) X nL k n σ pc loc (.ref (ad 4) :: rest) :=
  j_get (T := T_TK) (N := 13) (Cn := "TollLedger$Taking") (ci := 4) (j := 12) C (fun w h => List.mem_cons_of_mem _ (in_TK w h)) ⟨4, rfl⟩ rfl (by decide) hw (Or.inl rfl) rfl hd kk
theorem p_TK_cost (C : JC X l0 D0 (ttf cs) eE cc own nL (cd :: BIG) fr lo ce sl) {ix : Nat} {v : Int32} (e : σ' = sI σ 16 v) (hw : Cond.fieldLink own ix "TollLedger$Taking" "cost" "I" ∈ cd :: BIG) (hd : decode cc pc = .ok (.putfield ix, 3)) (kk : J (wfm ad cs) X nL k n σ' (pc + 3) loc (rest)) : J (wfm ad cs) X nL k n σ pc loc (.int v :: .ref (ad 4) :: rest) := by
  subst e
  exact j_put (T := T_TK) (N := 13) (Cn := "TollLedger$Taking") (ci := 4) (j := 12) (ty := .int) C (fun w h => List.mem_cons_of_mem _ (in_TK w h)) tk_TK nm_TK (fun _ _ => ⟨4, rfl, rfl⟩) rfl (by decide) hw (Or.inl rfl) rfl (by decide +kernel) rfl rfl (Nat.le_of_ble_eq_true rfl) hd kk
theorem g_LV_row (C : JC X l0 D0 (ttf cs) eE cc own nL (cd :: BIG) fr lo ce sl) {ix : Nat} (hw : Cond.fieldLink own ix "TollLedger$Leaves" "row" "[I" ∈ cd :: BIG) (hd : decode cc pc = .ok (.getfield ix, 3)) (kk : J (wfm ad cs) X nL k n σ (pc + 3) loc (.ref (ad 17) :: rest)) : J (wfm ad cs) X nL k n σ pc loc (.ref (ad 5) :: rest) :=
  j_get (T := T_LV) (N := 1) (Cn := "TollLedger$Leaves") (ci := 5) (j := 0) C (fun w h => List.mem_cons_of_mem _ (in_LV w h)) ⟨5, rfl⟩ rfl (by decide) hw (Or.inl rfl) rfl hd kk
theorem g_OL_modCount (C : JC X l0 D0 (ttf cs) eE cc own nL (cd :: BIG) fr lo ce sl) {ix : Nat} (hw : Cond.fieldLink own ix "java/util/ArrayList" "modCount" "I" ∈ cd :: BIG) (hd : decode cc pc = .ok (.getfield ix, 3)) (kk : J (wfm ad cs) X nL k n σ (pc + 3) loc (.int (gI σ 17) :: rest)) : J (wfm ad cs) X nL k n σ pc loc (.ref (ad 6) :: rest) :=
  j_get (T := T_AL) (N := 3) (Cn := "java/util/ArrayList") (ci := 9) (j := 0) C (fun w h => List.mem_cons_of_mem _ (in_AL w h)) ⟨6, rfl⟩ rfl (by decide) hw (Or.inr (List.mem_cons_of_mem _ (bgA (inT1 76 rfl) rfl))) rfl hd kk
theorem p_OL_modCount (C : JC X l0 D0 (ttf cs) eE cc own nL (cd :: BIG) fr lo ce sl) {ix : Nat} {v : Int32} (e : σ' = sI σ 17 v) (hw : Cond.fieldLink own ix "java/util/ArrayList" "modCount" "I" ∈ cd :: BIG) (hd : decode cc pc = .ok (.putfield ix, 3)) (kk : J (wfm ad cs) X nL k n σ' (pc + 3) loc (rest)) : J (wfm ad cs) X nL k n σ pc loc (.int v :: .ref (ad 6) :: rest) := by
  subst e
  exact j_put (T := T_AL) (N := 3) (Cn := "java/util/ArrayList") (ci := 9) (j := 0) (ty := .int) C (fun w h => List.mem_cons_of_mem _ (in_AL w h)) tk_AL nm_AL (fun _ _ => ⟨6, rfl, rfl⟩) rfl (by decide) hw (Or.inr (List.mem_cons_of_mem _ (bgA (inT1 76 rfl) rfl))) rfl (by decide +kernel) rfl rfl (Nat.le_of_ble_eq_true rfl) hd kk
theorem g_OL_elementData (C : JC X l0 D0 (ttf cs) eE cc own nL (cd :: BIG) fr lo ce sl) {ix : Nat} (hw : Cond.fieldLink own ix "java/util/ArrayList" "elementData" "[Ljava/lang/Object;" ∈ cd :: BIG) (hd : decode cc pc = .ok (.getfield ix, 3)) (kk : J (wfm ad cs) X nL k n σ (pc + 3) loc (.ref (gE σ 0) :: rest)) : J (wfm ad cs) X nL k n σ pc loc (.ref (ad 6) :: rest) :=
  j_get (T := T_AL) (N := 3) (Cn := "java/util/ArrayList") (ci := 9) (j := 1) C (fun w h => List.mem_cons_of_mem _ (in_AL w h)) ⟨6, rfl⟩ rfl (by decide) hw (Or.inl rfl) rfl hd kk
theorem p_OL_elementData (C : JC X l0 D0 (ttf cs) eE cc own nL (cd :: BIG) fr lo ce sl) {ix : Nat} {v : Nat} (e : σ' = sE σ 0 v) (hw : Cond.fieldLink own ix "java/util/ArrayList" "elementData" "[Ljava/lang/Object;" ∈ cd :: BIG) (hd : decode cc pc = .ok (.putfield ix, 3)) (kk : J (wfm ad cs) X nL k n σ' (pc + 3) loc (rest)) : J (wfm ad cs) X nL k n σ pc loc (.ref v :: .ref (ad 6) :: rest) := by
  subst e
  exact j_put (T := T_AL) (N := 3) (Cn := "java/util/ArrayList") (ci := 9) (j := 1) (ty := .array (.object "java/lang/Object")) C (fun w h => List.mem_cons_of_mem _ (in_AL w h)) tk_AL nm_AL (fun _ _ => ⟨6, rfl, rfl⟩) rfl (by decide) hw (Or.inl rfl) rfl (by decide +kernel) rfl rfl (Nat.le_of_ble_eq_true rfl) hd kk
theorem g_OL_size (C : JC X l0 D0 (ttf cs) eE cc own nL (cd :: BIG) fr lo ce sl) {ix : Nat} (hw : Cond.fieldLink own ix "java/util/ArrayList" "size" "I" ∈ cd :: BIG) (hd : decode cc pc = .ok (.getfield ix, 3)) (kk : J (wfm ad cs) X nL k n σ (pc + 3) loc (.int (gI σ 18) :: rest)) : J (wfm ad cs) X nL k n σ pc loc (.ref (ad 6) :: rest) :=
  j_get (T := T_AL) (N := 3) (Cn := "java/util/ArrayList") (ci := 9) (j := 2) C (fun w h => List.mem_cons_of_mem _ (in_AL w h)) ⟨6, rfl⟩ rfl (by decide) hw (Or.inl rfl) rfl hd kk
theorem p_OL_size (C : JC X l0 D0 (ttf cs) eE cc own nL (cd :: BIG) fr lo ce sl) {ix : Nat} {v : Int32} (e : σ' = sI σ 18 v) (hw : Cond.fieldLink own ix "java/util/ArrayList" "size" "I" ∈ cd :: BIG) (hd : decode cc pc = .ok (.putfield ix, 3)) (kk : J (wfm ad cs) X nL k n σ' (pc + 3) loc (rest)) : J (wfm ad cs) X nL k n σ pc loc (.int v :: .ref (ad 6) :: rest) := by
  subst e
  exact j_put (T := T_AL) (N := 3) (Cn := "java/util/ArrayList") (ci := 9) (j := 2) (ty := .int) C (fun w h => List.mem_cons_of_mem _ (in_AL w h)) tk_AL nm_AL (fun _ _ => ⟨6, rfl, rfl⟩) rfl (by decide) hw (Or.inl rfl) rfl (by decide +kernel) rfl rfl (Nat.le_of_ble_eq_true rfl) hd kk
theorem g_DL_modCount (C : JC X l0 D0 (ttf cs) eE cc own nL (cd :: BIG) fr lo ce sl) {ix : Nat} (hw : Cond.fieldLink own ix "java/util/ArrayList" "modCount" "I" ∈ cd :: BIG) (hd : decode cc pc = .ok (.getfield ix, 3)) (kk : J (wfm ad cs) X nL k n σ (pc + 3) loc (.int (gI σ 19) :: rest)) : J (wfm ad cs) X nL k n σ pc loc (.ref (ad 7) :: rest) :=
  j_get (T := T_AL) (N := 3) (Cn := "java/util/ArrayList") (ci := 9) (j := 0) C (fun w h => List.mem_cons_of_mem _ (in_AL w h)) ⟨7, rfl⟩ rfl (by decide) hw (Or.inr (List.mem_cons_of_mem _ (bgA (inT1 76 rfl) rfl))) rfl hd kk
theorem p_DL_modCount (C : JC X l0 D0 (ttf cs) eE cc own nL (cd :: BIG) fr lo ce sl) {ix : Nat} {v : Int32} (e : σ' = sI σ 19 v) (hw : Cond.fieldLink own ix "java/util/ArrayList" "modCount" "I" ∈ cd :: BIG) (hd : decode cc pc = .ok (.putfield ix, 3)) (kk : J (wfm ad cs) X nL k n σ' (pc + 3) loc (rest)) : J (wfm ad cs) X nL k n σ pc loc (.int v :: .ref (ad 7) :: rest) := by
  subst e
  exact j_put (T := T_AL) (N := 3) (Cn := "java/util/ArrayList") (ci := 9) (j := 0) (ty := .int) C (fun w h => List.mem_cons_of_mem _ (in_AL w h)) tk_AL nm_AL (fun _ _ => ⟨7, rfl, rfl⟩) rfl (by decide) hw (Or.inr (List.mem_cons_of_mem _ (bgA (inT1 76 rfl) rfl))) rfl (by decide +kernel) rfl rfl (Nat.le_of_ble_eq_true rfl) hd kk
theorem g_DL_elementData (C : JC X l0 D0 (ttf cs) eE cc own nL (cd :: BIG) fr lo ce sl) {ix : Nat} (hw : Cond.fieldLink own ix "java/util/ArrayList" "elementData" "[Ljava/lang/Object;" ∈ cd :: BIG) (hd : decode cc pc = .ok (.getfield ix, 3)) (kk : J (wfm ad cs) X nL k n σ (pc + 3) loc (.ref (gE σ 1) :: rest)) : J (wfm ad cs) X nL k n σ pc loc (.ref (ad 7) :: rest) :=
  j_get (T := T_AL) (N := 3) (Cn := "java/util/ArrayList") (ci := 9) (j := 1) C (fun w h => List.mem_cons_of_mem _ (in_AL w h)) ⟨7, rfl⟩ rfl (by decide) hw (Or.inl rfl) rfl hd kk
theorem p_DL_elementData (C : JC X l0 D0 (ttf cs) eE cc own nL (cd :: BIG) fr lo ce sl) {ix : Nat} {v : Nat} (e : σ' = sE σ 1 v) (hw : Cond.fieldLink own ix "java/util/ArrayList" "elementData" "[Ljava/lang/Object;" ∈ cd :: BIG) (hd : decode cc pc = .ok (.putfield ix, 3)) (kk : J (wfm ad cs) X nL k n σ' (pc + 3) loc (rest)) : J (wfm ad cs) X nL k n σ pc loc (.ref v :: .ref (ad 7) :: rest) := by
  subst e
  exact j_put (T := T_AL) (N := 3) (Cn := "java/util/ArrayList") (ci := 9) (j := 1) (ty := .array (.object "java/lang/Object")) C (fun w h => List.mem_cons_of_mem _ (in_AL w h)) tk_AL nm_AL (fun _ _ => ⟨7, rfl, rfl⟩) rfl (by decide) hw (Or.inl rfl) rfl (by decide +kernel) rfl rfl (Nat.le_of_ble_eq_true rfl) hd kk
theorem g_DL_size (C : JC X l0 D0 (ttf cs) eE cc own nL (cd :: BIG) fr lo ce sl) {ix : Nat} (hw : Cond.fieldLink own ix "java/util/ArrayList" "size" "I" ∈ cd :: BIG) (hd : decode cc pc = .ok (.getfield ix, 3)) (kk : J (wfm ad cs) X nL k n σ (pc + 3) loc (.int (gI σ 20) :: rest)) : J (wfm ad cs) X nL k n σ pc loc (.ref (ad 7) :: rest) :=
  j_get (T := T_AL) (N := 3) (Cn := "java/util/ArrayList") (ci := 9) (j := 2) C (fun w h => List.mem_cons_of_mem _ (in_AL w h)) ⟨7, rfl⟩ rfl (by decide) hw (Or.inl rfl) rfl hd kk
theorem p_DL_size (C : JC X l0 D0 (ttf cs) eE cc own nL (cd :: BIG) fr lo ce sl) {ix : Nat} {v : Int32} (e : σ' = sI σ 20 v) (hw : Cond.fieldLink own ix "java/util/ArrayList" "size" "I" ∈ cd :: BIG) (hd : decode cc pc = .ok (.putfield ix, 3)) (kk : J (wfm ad cs) X nL k n σ' (pc + 3) loc (rest)) : J (wfm ad cs) X nL k n σ pc loc (.int v :: .ref (ad 7) :: rest) := by
  subst e
  exact j_put (T := T_AL) (N := 3) (Cn := "java/util/ArrayList") (ci := 9) (j := 2) (ty := .int) C (fun w h => List.mem_cons_of_mem _ (in_AL w h)) tk_AL nm_AL (fun _ _ => ⟨7, rfl, rfl⟩) rfl (by decide) hw (Or.inl rfl) rfl (by decide +kernel) rfl rfl (Nat.le_of_ble_eq_true rfl) hd kk
theorem g_MD_exists (C : JC X l0 D0 (ttf cs) eE cc own nL (cd :: BIG) fr lo ce sl) {ix : Nat} (hw : Cond.fieldLink own ix "TollLedgerModel" "exists" "[Z" ∈ cd :: BIG) (hd : decode cc pc = .ok (.getfield ix, 3)) (kk : J (wfm ad cs) X nL k n σ (pc + 3) loc (.ref (ad 19) :: rest)) : J (wfm ad cs) X nL k n σ pc loc (.ref (ad 18) :: rest) :=
  j_get (T := T_MD) (N := 39) (Cn := "TollLedgerModel") (ci := 10) (j := 0) C (fun w h => List.mem_cons_of_mem _ (in_MD w h)) ⟨18, rfl⟩ rfl (by decide) hw (Or.inl rfl) rfl hd kk
theorem g_MD_coins (C : JC X l0 D0 (ttf cs) eE cc own nL (cd :: BIG) fr lo ce sl) {ix : Nat} (hw : Cond.fieldLink own ix "TollLedgerModel" "coins" "[I" ∈ cd :: BIG) (hd : decode cc pc = .ok (.getfield ix, 3)) (kk : J (wfm ad cs) X nL k n σ (pc + 3) loc (.ref (ad 20) :: rest)) : J (wfm ad cs) X nL k n σ pc loc (.ref (ad 18) :: rest) :=
  j_get (T := T_MD) (N := 39) (Cn := "TollLedgerModel") (ci := 10) (j := 1) C (fun w h => List.mem_cons_of_mem _ (in_MD w h)) ⟨18, rfl⟩ rfl (by decide) hw (Or.inl rfl) rfl hd kk
theorem g_MD_numbers (C : JC X l0 D0 (ttf cs) eE cc own nL (cd :: BIG) fr lo ce sl) {ix : Nat} (hw : Cond.fieldLink own ix "TollLedgerModel" "numbers" "[I" ∈ cd :: BIG) (hd : decode cc pc = .ok (.getfield ix, 3)) (kk : J (wfm ad cs) X nL k n σ (pc + 3) loc (.ref (ad 21) :: rest)) : J (wfm ad cs) X nL k n σ pc loc (.ref (ad 18) :: rest) :=
  j_get (T := T_MD) (N := 39) (Cn := "TollLedgerModel") (ci := 10) (j := 2) C (fun w h => List.mem_cons_of_mem _ (in_MD w h)) ⟨18, rfl⟩ rfl (by decide) hw (Or.inl rfl) rfl hd kk
theorem g_MD_rates (C : JC X l0 D0 (ttf cs) eE cc own nL (cd :: BIG) fr lo ce sl) {ix : Nat} (hw : Cond.fieldLink own ix "TollLedgerModel" "rates" "[I" ∈ cd :: BIG) (hd : decode cc pc = .ok (.getfield ix, 3)) (kk : J (wfm ad cs) X nL k n σ (pc + 3) loc (.ref (ad 22) :: rest)) : J (wfm ad cs) X nL k n σ pc loc (.ref (ad 18) :: rest) :=
  j_get (T := T_MD) (N := 39) (Cn := "TollLedgerModel") (ci := 10) (j := 3) C (fun w h => List.mem_cons_of_mem _ (in_MD w h)) ⟨18, rfl⟩ rfl (by decide) hw (Or.inl rfl) rfl hd kk
theorem g_MD_balances (C : JC X l0 D0 (ttf cs) eE cc own nL (cd :: BIG) fr lo ce sl) {ix : Nat} (hw : Cond.fieldLink own ix "TollLedgerModel" "balances" "[I" ∈ cd :: BIG) (hd : decode cc pc = .ok (.getfield ix, 3)) (kk : J (wfm ad cs) X nL k n σ (pc + 3) loc (.ref (ad 23) :: rest)) : J (wfm ad cs) X nL k n σ pc loc (.ref (ad 18) :: rest) :=
  j_get (T := T_MD) (N := 39) (Cn := "TollLedgerModel") (ci := 10) (j := 4) C (fun w h => List.mem_cons_of_mem _ (in_MD w h)) ⟨18, rfl⟩ rfl (by decide) hw (Or.inl rfl) rfl hd kk
theorem g_MD_limits (C : JC X l0 D0 (ttf cs) eE cc own nL (cd :: BIG) fr lo ce sl) {ix : Nat} (hw : Cond.fieldLink own ix "TollLedgerModel" "limits" "[I" ∈ cd :: BIG) (hd : decode cc pc = .ok (.getfield ix, 3)) (kk : J (wfm ad cs) X nL k n σ (pc + 3) loc (.ref (ad 24) :: rest)) : J (wfm ad cs) X nL k n σ pc loc (.ref (ad 18) :: rest) :=
  j_get (T := T_MD) (N := 39) (Cn := "TollLedgerModel") (ci := 10) (j := 5) C (fun w h => List.mem_cons_of_mem _ (in_MD w h)) ⟨18, rfl⟩ rfl (by decide) hw (Or.inl rfl) rfl hd kk
theorem g_MD_quiets (C : JC X l0 D0 (ttf cs) eE cc own nL (cd :: BIG) fr lo ce sl) {ix : Nat} (hw : Cond.fieldLink own ix "TollLedgerModel" "quiets" "[Z" ∈ cd :: BIG) (hd : decode cc pc = .ok (.getfield ix, 3)) (kk : J (wfm ad cs) X nL k n σ (pc + 3) loc (.ref (ad 25) :: rest)) : J (wfm ad cs) X nL k n σ pc loc (.ref (ad 18) :: rest) :=
  j_get (T := T_MD) (N := 39) (Cn := "TollLedgerModel") (ci := 10) (j := 6) C (fun w h => List.mem_cons_of_mem _ (in_MD w h)) ⟨18, rfl⟩ rfl (by decide) hw (Or.inl rfl) rfl hd kk
theorem g_MD_offers (C : JC X l0 D0 (ttf cs) eE cc own nL (cd :: BIG) fr lo ce sl) {ix : Nat} (hw : Cond.fieldLink own ix "TollLedgerModel" "offers" "I" ∈ cd :: BIG) (hd : decode cc pc = .ok (.getfield ix, 3)) (kk : J (wfm ad cs) X nL k n σ (pc + 3) loc (.int (gI σ 21) :: rest)) : J (wfm ad cs) X nL k n σ pc loc (.ref (ad 18) :: rest) :=
  j_get (T := T_MD) (N := 39) (Cn := "TollLedgerModel") (ci := 10) (j := 7) C (fun w h => List.mem_cons_of_mem _ (in_MD w h)) ⟨18, rfl⟩ rfl (by decide) hw (Or.inl rfl) rfl hd kk
theorem p_MD_offers (C : JC X l0 D0 (ttf cs) eE cc own nL (cd :: BIG) fr lo ce sl) {ix : Nat} {v : Int32} (e : σ' = sI σ 21 v) (hw : Cond.fieldLink own ix "TollLedgerModel" "offers" "I" ∈ cd :: BIG) (hd : decode cc pc = .ok (.putfield ix, 3)) (kk : J (wfm ad cs) X nL k n σ' (pc + 3) loc (rest)) : J (wfm ad cs) X nL k n σ pc loc (.int v :: .ref (ad 18) :: rest) := by
  subst e
  exact j_put (T := T_MD) (N := 39) (Cn := "TollLedgerModel") (ci := 10) (j := 7) (ty := .int) C (fun w h => List.mem_cons_of_mem _ (in_MD w h)) tk_MD nm_MD (fun _ _ => ⟨18, rfl, rfl⟩) rfl (by decide) hw (Or.inl rfl) rfl (by decide +kernel) rfl rfl (Nat.le_of_ble_eq_true rfl) hd kk
theorem g_MD_lastOffer (C : JC X l0 D0 (ttf cs) eE cc own nL (cd :: BIG) fr lo ce sl) {ix : Nat} (hw : Cond.fieldLink own ix "TollLedgerModel" "lastOffer" "I" ∈ cd :: BIG) (hd : decode cc pc = .ok (.getfield ix, 3)) (kk : J (wfm ad cs) X nL k n σ (pc + 3) loc (.int (gI σ 22) :: rest)) : J (wfm ad cs) X nL k n σ pc loc (.ref (ad 18) :: rest) :=
  j_get (T := T_MD) (N := 39) (Cn := "TollLedgerModel") (ci := 10) (j := 8) C (fun w h => List.mem_cons_of_mem _ (in_MD w h)) ⟨18, rfl⟩ rfl (by decide) hw (Or.inl rfl) rfl hd kk
theorem p_MD_lastOffer (C : JC X l0 D0 (ttf cs) eE cc own nL (cd :: BIG) fr lo ce sl) {ix : Nat} {v : Int32} (e : σ' = sI σ 22 v) (hw : Cond.fieldLink own ix "TollLedgerModel" "lastOffer" "I" ∈ cd :: BIG) (hd : decode cc pc = .ok (.putfield ix, 3)) (kk : J (wfm ad cs) X nL k n σ' (pc + 3) loc (rest)) : J (wfm ad cs) X nL k n σ pc loc (.int v :: .ref (ad 18) :: rest) := by
  subst e
  exact j_put (T := T_MD) (N := 39) (Cn := "TollLedgerModel") (ci := 10) (j := 8) (ty := .int) C (fun w h => List.mem_cons_of_mem _ (in_MD w h)) tk_MD nm_MD (fun _ _ => ⟨18, rfl, rfl⟩) rfl (by decide) hw (Or.inl rfl) rfl (by decide +kernel) rfl rfl (Nat.le_of_ble_eq_true rfl) hd kk
theorem g_MD_offerId (C : JC X l0 D0 (ttf cs) eE cc own nL (cd :: BIG) fr lo ce sl) {ix : Nat} (hw : Cond.fieldLink own ix "TollLedgerModel" "offerId" "[I" ∈ cd :: BIG) (hd : decode cc pc = .ok (.getfield ix, 3)) (kk : J (wfm ad cs) X nL k n σ (pc + 3) loc (.ref (ad 26) :: rest)) : J (wfm ad cs) X nL k n σ pc loc (.ref (ad 18) :: rest) :=
  j_get (T := T_MD) (N := 39) (Cn := "TollLedgerModel") (ci := 10) (j := 9) C (fun w h => List.mem_cons_of_mem _ (in_MD w h)) ⟨18, rfl⟩ rfl (by decide) hw (Or.inl rfl) rfl hd kk
theorem g_MD_ownerOf (C : JC X l0 D0 (ttf cs) eE cc own nL (cd :: BIG) fr lo ce sl) {ix : Nat} (hw : Cond.fieldLink own ix "TollLedgerModel" "ownerOf" "[I" ∈ cd :: BIG) (hd : decode cc pc = .ok (.getfield ix, 3)) (kk : J (wfm ad cs) X nL k n σ (pc + 3) loc (.ref (ad 27) :: rest)) : J (wfm ad cs) X nL k n σ pc loc (.ref (ad 18) :: rest) :=
  j_get (T := T_MD) (N := 39) (Cn := "TollLedgerModel") (ci := 10) (j := 10) C (fun w h => List.mem_cons_of_mem _ (in_MD w h)) ⟨18, rfl⟩ rfl (by decide) hw (Or.inl rfl) rfl hd kk
theorem g_MD_wantsOf (C : JC X l0 D0 (ttf cs) eE cc own nL (cd :: BIG) fr lo ce sl) {ix : Nat} (hw : Cond.fieldLink own ix "TollLedgerModel" "wantsOf" "[I" ∈ cd :: BIG) (hd : decode cc pc = .ok (.getfield ix, 3)) (kk : J (wfm ad cs) X nL k n σ (pc + 3) loc (.ref (ad 28) :: rest)) : J (wfm ad cs) X nL k n σ pc loc (.ref (ad 18) :: rest) :=
  j_get (T := T_MD) (N := 39) (Cn := "TollLedgerModel") (ci := 10) (j := 11) C (fun w h => List.mem_cons_of_mem _ (in_MD w h)) ⟨18, rfl⟩ rfl (by decide) hw (Or.inl rfl) rfl hd kk
theorem g_MD_givesOf (C : JC X l0 D0 (ttf cs) eE cc own nL (cd :: BIG) fr lo ce sl) {ix : Nat} (hw : Cond.fieldLink own ix "TollLedgerModel" "givesOf" "[I" ∈ cd :: BIG) (hd : decode cc pc = .ok (.getfield ix, 3)) (kk : J (wfm ad cs) X nL k n σ (pc + 3) loc (.ref (ad 29) :: rest)) : J (wfm ad cs) X nL k n σ pc loc (.ref (ad 18) :: rest) :=
  j_get (T := T_MD) (N := 39) (Cn := "TollLedgerModel") (ci := 10) (j := 12) C (fun w h => List.mem_cons_of_mem _ (in_MD w h)) ⟨18, rfl⟩ rfl (by decide) hw (Or.inl rfl) rfl hd kk
theorem g_MD_wOf (C : JC X l0 D0 (ttf cs) eE cc own nL (cd :: BIG) fr lo ce sl) {ix : Nat} (hw : Cond.fieldLink own ix "TollLedgerModel" "wOf" "[I" ∈ cd :: BIG) (hd : decode cc pc = .ok (.getfield ix, 3)) (kk : J (wfm ad cs) X nL k n σ (pc + 3) loc (.ref (ad 30) :: rest)) : J (wfm ad cs) X nL k n σ pc loc (.ref (ad 18) :: rest) :=
  j_get (T := T_MD) (N := 39) (Cn := "TollLedgerModel") (ci := 10) (j := 13) C (fun w h => List.mem_cons_of_mem _ (in_MD w h)) ⟨18, rfl⟩ rfl (by decide) hw (Or.inl rfl) rfl hd kk
theorem g_MD_gOf (C : JC X l0 D0 (ttf cs) eE cc own nL (cd :: BIG) fr lo ce sl) {ix : Nat} (hw : Cond.fieldLink own ix "TollLedgerModel" "gOf" "[I" ∈ cd :: BIG) (hd : decode cc pc = .ok (.getfield ix, 3)) (kk : J (wfm ad cs) X nL k n σ (pc + 3) loc (.ref (ad 31) :: rest)) : J (wfm ad cs) X nL k n σ pc loc (.ref (ad 18) :: rest) :=
  j_get (T := T_MD) (N := 39) (Cn := "TollLedgerModel") (ci := 10) (j := 14) C (fun w h => List.mem_cons_of_mem _ (in_MD w h)) ⟨18, rfl⟩ rfl (by decide) hw (Or.inl rfl) rfl hd kk
theorem g_MD_deposits (C : JC X l0 D0 (ttf cs) eE cc own nL (cd :: BIG) fr lo ce sl) {ix : Nat} (hw : Cond.fieldLink own ix "TollLedgerModel" "deposits" "I" ∈ cd :: BIG) (hd : decode cc pc = .ok (.getfield ix, 3)) (kk : J (wfm ad cs) X nL k n σ (pc + 3) loc (.int (gI σ 23) :: rest)) : J (wfm ad cs) X nL k n σ pc loc (.ref (ad 18) :: rest) :=
  j_get (T := T_MD) (N := 39) (Cn := "TollLedgerModel") (ci := 10) (j := 15) C (fun w h => List.mem_cons_of_mem _ (in_MD w h)) ⟨18, rfl⟩ rfl (by decide) hw (Or.inl rfl) rfl hd kk
theorem p_MD_deposits (C : JC X l0 D0 (ttf cs) eE cc own nL (cd :: BIG) fr lo ce sl) {ix : Nat} {v : Int32} (e : σ' = sI σ 23 v) (hw : Cond.fieldLink own ix "TollLedgerModel" "deposits" "I" ∈ cd :: BIG) (hd : decode cc pc = .ok (.putfield ix, 3)) (kk : J (wfm ad cs) X nL k n σ' (pc + 3) loc (rest)) : J (wfm ad cs) X nL k n σ pc loc (.int v :: .ref (ad 18) :: rest) := by
  subst e
  exact j_put (T := T_MD) (N := 39) (Cn := "TollLedgerModel") (ci := 10) (j := 15) (ty := .int) C (fun w h => List.mem_cons_of_mem _ (in_MD w h)) tk_MD nm_MD (fun _ _ => ⟨18, rfl, rfl⟩) rfl (by decide) hw (Or.inl rfl) rfl (by decide +kernel) rfl rfl (Nat.le_of_ble_eq_true rfl) hd kk
theorem g_MD_lastDeposit (C : JC X l0 D0 (ttf cs) eE cc own nL (cd :: BIG) fr lo ce sl) {ix : Nat} (hw : Cond.fieldLink own ix "TollLedgerModel" "lastDeposit" "I" ∈ cd :: BIG) (hd : decode cc pc = .ok (.getfield ix, 3)) (kk : J (wfm ad cs) X nL k n σ (pc + 3) loc (.int (gI σ 24) :: rest)) : J (wfm ad cs) X nL k n σ pc loc (.ref (ad 18) :: rest) :=
  j_get (T := T_MD) (N := 39) (Cn := "TollLedgerModel") (ci := 10) (j := 16) C (fun w h => List.mem_cons_of_mem _ (in_MD w h)) ⟨18, rfl⟩ rfl (by decide) hw (Or.inl rfl) rfl hd kk
theorem p_MD_lastDeposit (C : JC X l0 D0 (ttf cs) eE cc own nL (cd :: BIG) fr lo ce sl) {ix : Nat} {v : Int32} (e : σ' = sI σ 24 v) (hw : Cond.fieldLink own ix "TollLedgerModel" "lastDeposit" "I" ∈ cd :: BIG) (hd : decode cc pc = .ok (.putfield ix, 3)) (kk : J (wfm ad cs) X nL k n σ' (pc + 3) loc (rest)) : J (wfm ad cs) X nL k n σ pc loc (.int v :: .ref (ad 18) :: rest) := by
  subst e
  exact j_put (T := T_MD) (N := 39) (Cn := "TollLedgerModel") (ci := 10) (j := 16) (ty := .int) C (fun w h => List.mem_cons_of_mem _ (in_MD w h)) tk_MD nm_MD (fun _ _ => ⟨18, rfl, rfl⟩) rfl (by decide) hw (Or.inl rfl) rfl (by decide +kernel) rfl rfl (Nat.le_of_ble_eq_true rfl) hd kk
theorem g_MD_depositId (C : JC X l0 D0 (ttf cs) eE cc own nL (cd :: BIG) fr lo ce sl) {ix : Nat} (hw : Cond.fieldLink own ix "TollLedgerModel" "depositId" "[I" ∈ cd :: BIG) (hd : decode cc pc = .ok (.getfield ix, 3)) (kk : J (wfm ad cs) X nL k n σ (pc + 3) loc (.ref (ad 32) :: rest)) : J (wfm ad cs) X nL k n σ pc loc (.ref (ad 18) :: rest) :=
  j_get (T := T_MD) (N := 39) (Cn := "TollLedgerModel") (ci := 10) (j := 17) C (fun w h => List.mem_cons_of_mem _ (in_MD w h)) ⟨18, rfl⟩ rfl (by decide) hw (Or.inl rfl) rfl hd kk
theorem g_MD_fromOf (C : JC X l0 D0 (ttf cs) eE cc own nL (cd :: BIG) fr lo ce sl) {ix : Nat} (hw : Cond.fieldLink own ix "TollLedgerModel" "fromOf" "[I" ∈ cd :: BIG) (hd : decode cc pc = .ok (.getfield ix, 3)) (kk : J (wfm ad cs) X nL k n σ (pc + 3) loc (.ref (ad 33) :: rest)) : J (wfm ad cs) X nL k n σ pc loc (.ref (ad 18) :: rest) :=
  j_get (T := T_MD) (N := 39) (Cn := "TollLedgerModel") (ci := 10) (j := 18) C (fun w h => List.mem_cons_of_mem _ (in_MD w h)) ⟨18, rfl⟩ rfl (by decide) hw (Or.inl rfl) rfl hd kk
theorem g_MD_toOf (C : JC X l0 D0 (ttf cs) eE cc own nL (cd :: BIG) fr lo ce sl) {ix : Nat} (hw : Cond.fieldLink own ix "TollLedgerModel" "toOf" "[I" ∈ cd :: BIG) (hd : decode cc pc = .ok (.getfield ix, 3)) (kk : J (wfm ad cs) X nL k n σ (pc + 3) loc (.ref (ad 34) :: rest)) : J (wfm ad cs) X nL k n σ pc loc (.ref (ad 18) :: rest) :=
  j_get (T := T_MD) (N := 39) (Cn := "TollLedgerModel") (ci := 10) (j := 19) C (fun w h => List.mem_cons_of_mem _ (in_MD w h)) ⟨18, rfl⟩ rfl (by decide) hw (Or.inl rfl) rfl hd kk
theorem g_MD_heldOf (C : JC X l0 D0 (ttf cs) eE cc own nL (cd :: BIG) fr lo ce sl) {ix : Nat} (hw : Cond.fieldLink own ix "TollLedgerModel" "heldOf" "[I" ∈ cd :: BIG) (hd : decode cc pc = .ok (.getfield ix, 3)) (kk : J (wfm ad cs) X nL k n σ (pc + 3) loc (.ref (ad 35) :: rest)) : J (wfm ad cs) X nL k n σ pc loc (.ref (ad 18) :: rest) :=
  j_get (T := T_MD) (N := 39) (Cn := "TollLedgerModel") (ci := 10) (j := 20) C (fun w h => List.mem_cons_of_mem _ (in_MD w h)) ⟨18, rfl⟩ rfl (by decide) hw (Or.inl rfl) rfl hd kk
theorem g_MD_afterOf (C : JC X l0 D0 (ttf cs) eE cc own nL (cd :: BIG) fr lo ce sl) {ix : Nat} (hw : Cond.fieldLink own ix "TollLedgerModel" "afterOf" "[I" ∈ cd :: BIG) (hd : decode cc pc = .ok (.getfield ix, 3)) (kk : J (wfm ad cs) X nL k n σ (pc + 3) loc (.ref (ad 36) :: rest)) : J (wfm ad cs) X nL k n σ pc loc (.ref (ad 18) :: rest) :=
  j_get (T := T_MD) (N := 39) (Cn := "TollLedgerModel") (ci := 10) (j := 21) C (fun w h => List.mem_cons_of_mem _ (in_MD w h)) ⟨18, rfl⟩ rfl (by decide) hw (Or.inl rfl) rfl hd kk
theorem g_MD_untilOf (C : JC X l0 D0 (ttf cs) eE cc own nL (cd :: BIG) fr lo ce sl) {ix : Nat} (hw : Cond.fieldLink own ix "TollLedgerModel" "untilOf" "[I" ∈ cd :: BIG) (hd : decode cc pc = .ok (.getfield ix, 3)) (kk : J (wfm ad cs) X nL k n σ (pc + 3) loc (.ref (ad 37) :: rest)) : J (wfm ad cs) X nL k n σ pc loc (.ref (ad 18) :: rest) :=
  j_get (T := T_MD) (N := 39) (Cn := "TollLedgerModel") (ci := 10) (j := 22) C (fun w h => List.mem_cons_of_mem _ (in_MD w h)) ⟨18, rfl⟩ rfl (by decide) hw (Or.inl rfl) rfl hd kk
theorem g_MD_me (C : JC X l0 D0 (ttf cs) eE cc own nL (cd :: BIG) fr lo ce sl) {ix : Nat} (hw : Cond.fieldLink own ix "TollLedgerModel" "me" "I" ∈ cd :: BIG) (hd : decode cc pc = .ok (.getfield ix, 3)) (kk : J (wfm ad cs) X nL k n σ (pc + 3) loc (.int (gI σ 25) :: rest)) : J (wfm ad cs) X nL k n σ pc loc (.ref (ad 18) :: rest) :=
  j_get (T := T_MD) (N := 39) (Cn := "TollLedgerModel") (ci := 10) (j := 23) C (fun w h => List.mem_cons_of_mem _ (in_MD w h)) ⟨18, rfl⟩ rfl (by decide) hw (Or.inl rfl) rfl hd kk
theorem p_MD_me (C : JC X l0 D0 (ttf cs) eE cc own nL (cd :: BIG) fr lo ce sl) {ix : Nat} {v : Int32} (e : σ' = sI σ 25 v) (hw : Cond.fieldLink own ix "TollLedgerModel" "me" "I" ∈ cd :: BIG) (hd : decode cc pc = .ok (.putfield ix, 3)) (kk : J (wfm ad cs) X nL k n σ' (pc + 3) loc (rest)) : J (wfm ad cs) X nL k n σ pc loc (.int v :: .ref (ad 18) :: rest) := by
  subst e
  exact j_put (T := T_MD) (N := 39) (Cn := "TollLedgerModel") (ci := 10) (j := 23) (ty := .int) C (fun w h => List.mem_cons_of_mem _ (in_MD w h)) tk_MD nm_MD (fun _ _ => ⟨18, rfl, rfl⟩) rfl (by decide) hw (Or.inl rfl) rfl (by decide +kernel) rfl rfl (Nat.le_of_ble_eq_true rfl) hd kk
theorem g_MD_myNumber (C : JC X l0 D0 (ttf cs) eE cc own nL (cd :: BIG) fr lo ce sl) {ix : Nat} (hw : Cond.fieldLink own ix "TollLedgerModel" "myNumber" "I" ∈ cd :: BIG) (hd : decode cc pc = .ok (.getfield ix, 3)) (kk : J (wfm ad cs) X nL k n σ (pc + 3) loc (.int (gI σ 26) :: rest)) : J (wfm ad cs) X nL k n σ pc loc (.ref (ad 18) :: rest) :=
  j_get (T := T_MD) (N := 39) (Cn := "TollLedgerModel") (ci := 10) (j := 24) C (fun w h => List.mem_cons_of_mem _ (in_MD w h)) ⟨18, rfl⟩ rfl (by decide) hw (Or.inl rfl) rfl hd kk
theorem p_MD_myNumber (C : JC X l0 D0 (ttf cs) eE cc own nL (cd :: BIG) fr lo ce sl) {ix : Nat} {v : Int32} (e : σ' = sI σ 26 v) (hw : Cond.fieldLink own ix "TollLedgerModel" "myNumber" "I" ∈ cd :: BIG) (hd : decode cc pc = .ok (.putfield ix, 3)) (kk : J (wfm ad cs) X nL k n σ' (pc + 3) loc (rest)) : J (wfm ad cs) X nL k n σ pc loc (.int v :: .ref (ad 18) :: rest) := by
  subst e
  exact j_put (T := T_MD) (N := 39) (Cn := "TollLedgerModel") (ci := 10) (j := 24) (ty := .int) C (fun w h => List.mem_cons_of_mem _ (in_MD w h)) tk_MD nm_MD (fun _ _ => ⟨18, rfl, rfl⟩) rfl (by decide) hw (Or.inl rfl) rfl (by decide +kernel) rfl rfl (Nat.le_of_ble_eq_true rfl) hd kk
theorem g_MD_spendAsset (C : JC X l0 D0 (ttf cs) eE cc own nL (cd :: BIG) fr lo ce sl) {ix : Nat} (hw : Cond.fieldLink own ix "TollLedgerModel" "spendAsset" "I" ∈ cd :: BIG) (hd : decode cc pc = .ok (.getfield ix, 3)) (kk : J (wfm ad cs) X nL k n σ (pc + 3) loc (.int (gI σ 27) :: rest)) : J (wfm ad cs) X nL k n σ pc loc (.ref (ad 18) :: rest) :=
  j_get (T := T_MD) (N := 39) (Cn := "TollLedgerModel") (ci := 10) (j := 25) C (fun w h => List.mem_cons_of_mem _ (in_MD w h)) ⟨18, rfl⟩ rfl (by decide) hw (Or.inl rfl) rfl hd kk
theorem p_MD_spendAsset (C : JC X l0 D0 (ttf cs) eE cc own nL (cd :: BIG) fr lo ce sl) {ix : Nat} {v : Int32} (e : σ' = sI σ 27 v) (hw : Cond.fieldLink own ix "TollLedgerModel" "spendAsset" "I" ∈ cd :: BIG) (hd : decode cc pc = .ok (.putfield ix, 3)) (kk : J (wfm ad cs) X nL k n σ' (pc + 3) loc (rest)) : J (wfm ad cs) X nL k n σ pc loc (.int v :: .ref (ad 18) :: rest) := by
  subst e
  exact j_put (T := T_MD) (N := 39) (Cn := "TollLedgerModel") (ci := 10) (j := 25) (ty := .int) C (fun w h => List.mem_cons_of_mem _ (in_MD w h)) tk_MD nm_MD (fun _ _ => ⟨18, rfl, rfl⟩) rfl (by decide) hw (Or.inl rfl) rfl (by decide +kernel) rfl rfl (Nat.le_of_ble_eq_true rfl) hd kk
theorem g_MD_spendMost (C : JC X l0 D0 (ttf cs) eE cc own nL (cd :: BIG) fr lo ce sl) {ix : Nat} (hw : Cond.fieldLink own ix "TollLedgerModel" "spendMost" "I" ∈ cd :: BIG) (hd : decode cc pc = .ok (.getfield ix, 3)) (kk : J (wfm ad cs) X nL k n σ (pc + 3) loc (.int (gI σ 28) :: rest)) : J (wfm ad cs) X nL k n σ pc loc (.ref (ad 18) :: rest) :=
  j_get (T := T_MD) (N := 39) (Cn := "TollLedgerModel") (ci := 10) (j := 26) C (fun w h => List.mem_cons_of_mem _ (in_MD w h)) ⟨18, rfl⟩ rfl (by decide) hw (Or.inl rfl) rfl hd kk
theorem p_MD_spendMost (C : JC X l0 D0 (ttf cs) eE cc own nL (cd :: BIG) fr lo ce sl) {ix : Nat} {v : Int32} (e : σ' = sI σ 28 v) (hw : Cond.fieldLink own ix "TollLedgerModel" "spendMost" "I" ∈ cd :: BIG) (hd : decode cc pc = .ok (.putfield ix, 3)) (kk : J (wfm ad cs) X nL k n σ' (pc + 3) loc (rest)) : J (wfm ad cs) X nL k n σ pc loc (.int v :: .ref (ad 18) :: rest) := by
  subst e
  exact j_put (T := T_MD) (N := 39) (Cn := "TollLedgerModel") (ci := 10) (j := 26) (ty := .int) C (fun w h => List.mem_cons_of_mem _ (in_MD w h)) tk_MD nm_MD (fun _ _ => ⟨18, rfl, rfl⟩) rfl (by decide) hw (Or.inl rfl) rfl (by decide +kernel) rfl rfl (Nat.le_of_ble_eq_true rfl) hd kk
theorem g_MD_partly (C : JC X l0 D0 (ttf cs) eE cc own nL (cd :: BIG) fr lo ce sl) {ix : Nat} (hw : Cond.fieldLink own ix "TollLedgerModel" "partly" "Z" ∈ cd :: BIG) (hd : decode cc pc = .ok (.getfield ix, 3)) (kk : J (wfm ad cs) X nL k n σ (pc + 3) loc (.int (gI σ 29) :: rest)) : J (wfm ad cs) X nL k n σ pc loc (.ref (ad 18) :: rest) :=
  j_get (T := T_MD) (N := 39) (Cn := "TollLedgerModel") (ci := 10) (j := 27) C (fun w h => List.mem_cons_of_mem _ (in_MD w h)) ⟨18, rfl⟩ rfl (by decide) hw (Or.inl rfl) rfl hd kk
theorem p_MD_partly (C : JC X l0 D0 (ttf cs) eE cc own nL (cd :: BIG) fr lo ce sl) {ix : Nat} {v : Int32} (hz : v = 0 ∨ v = 1) (e : σ' = sI σ 29 v) (hw : Cond.fieldLink own ix "TollLedgerModel" "partly" "Z" ∈ cd :: BIG) (hd : decode cc pc = .ok (.putfield ix, 3)) (kk : J (wfm ad cs) X nL k n σ' (pc + 3) loc (rest)) : J (wfm ad cs) X nL k n σ pc loc (.int v :: .ref (ad 18) :: rest) := by
  subst e
  exact j_put (T := T_MD) (N := 39) (Cn := "TollLedgerModel") (ci := 10) (j := 27) (ty := .boolean) C (fun w h => List.mem_cons_of_mem _ (in_MD w h)) tk_MD nm_MD (fun _ _ => ⟨18, rfl, rfl⟩) rfl (by decide) hw (Or.inl rfl) rfl (by decide +kernel) (by rcases hz with rfl | rfl <;> rfl) (by rcases hz with rfl | rfl <;> rfl) (Nat.le_of_ble_eq_true rfl) hd kk
theorem g_MD_clock (C : JC X l0 D0 (ttf cs) eE cc own nL (cd :: BIG) fr lo ce sl) {ix : Nat} (hw : Cond.fieldLink own ix "TollLedgerModel" "clock" "I" ∈ cd :: BIG) (hd : decode cc pc = .ok (.getfield ix, 3)) (kk : J (wfm ad cs) X nL k n σ (pc + 3) loc (.int (gI σ 30) :: rest)) : J (wfm ad cs) X nL k n σ pc loc (.ref (ad 18) :: rest) :=
  j_get (T := T_MD) (N := 39) (Cn := "TollLedgerModel") (ci := 10) (j := 28) C (fun w h => List.mem_cons_of_mem _ (in_MD w h)) ⟨18, rfl⟩ rfl (by decide) hw (Or.inl rfl) rfl hd kk
theorem p_MD_clock (C : JC X l0 D0 (ttf cs) eE cc own nL (cd :: BIG) fr lo ce sl) {ix : Nat} {v : Int32} (e : σ' = sI σ 30 v) (hw : Cond.fieldLink own ix "TollLedgerModel" "clock" "I" ∈ cd :: BIG) (hd : decode cc pc = .ok (.putfield ix, 3)) (kk : J (wfm ad cs) X nL k n σ' (pc + 3) loc (rest)) : J (wfm ad cs) X nL k n σ pc loc (.int v :: .ref (ad 18) :: rest) := by
  subst e
  exact j_put (T := T_MD) (N := 39) (Cn := "TollLedgerModel") (ci := 10) (j := 28) (ty := .int) C (fun w h => List.mem_cons_of_mem _ (in_MD w h)) tk_MD nm_MD (fun _ _ => ⟨18, rfl, rfl⟩) rfl (by decide) hw (Or.inl rfl) rfl (by decide +kernel) rfl rfl (Nat.le_of_ble_eq_true rfl) hd kk
theorem g_MD_burned (C : JC X l0 D0 (ttf cs) eE cc own nL (cd :: BIG) fr lo ce sl) {ix : Nat} (hw : Cond.fieldLink own ix "TollLedgerModel" "burned" "I" ∈ cd :: BIG) (hd : decode cc pc = .ok (.getfield ix, 3)) (kk : J (wfm ad cs) X nL k n σ (pc + 3) loc (.int (gI σ 31) :: rest)) : J (wfm ad cs) X nL k n σ pc loc (.ref (ad 18) :: rest) :=
  j_get (T := T_MD) (N := 39) (Cn := "TollLedgerModel") (ci := 10) (j := 29) C (fun w h => List.mem_cons_of_mem _ (in_MD w h)) ⟨18, rfl⟩ rfl (by decide) hw (Or.inl rfl) rfl hd kk
theorem p_MD_burned (C : JC X l0 D0 (ttf cs) eE cc own nL (cd :: BIG) fr lo ce sl) {ix : Nat} {v : Int32} (e : σ' = sI σ 31 v) (hw : Cond.fieldLink own ix "TollLedgerModel" "burned" "I" ∈ cd :: BIG) (hd : decode cc pc = .ok (.putfield ix, 3)) (kk : J (wfm ad cs) X nL k n σ' (pc + 3) loc (rest)) : J (wfm ad cs) X nL k n σ pc loc (.int v :: .ref (ad 18) :: rest) := by
  subst e
  exact j_put (T := T_MD) (N := 39) (Cn := "TollLedgerModel") (ci := 10) (j := 29) (ty := .int) C (fun w h => List.mem_cons_of_mem _ (in_MD w h)) tk_MD nm_MD (fun _ _ => ⟨18, rfl, rfl⟩) rfl (by decide) hw (Or.inl rfl) rfl (by decide +kernel) rfl rfl (Nat.le_of_ble_eq_true rfl) hd kk
theorem g_MD_taken (C : JC X l0 D0 (ttf cs) eE cc own nL (cd :: BIG) fr lo ce sl) {ix : Nat} (hw : Cond.fieldLink own ix "TollLedgerModel" "taken" "[I" ∈ cd :: BIG) (hd : decode cc pc = .ok (.getfield ix, 3)) (kk : J (wfm ad cs) X nL k n σ (pc + 3) loc (.ref (ad 38) :: rest)) : J (wfm ad cs) X nL k n σ pc loc (.ref (ad 18) :: rest) :=
  j_get (T := T_MD) (N := 39) (Cn := "TollLedgerModel") (ci := 10) (j := 30) C (fun w h => List.mem_cons_of_mem _ (in_MD w h)) ⟨18, rfl⟩ rfl (by decide) hw (Or.inl rfl) rfl hd kk
theorem g_MD_prices (C : JC X l0 D0 (ttf cs) eE cc own nL (cd :: BIG) fr lo ce sl) {ix : Nat} (hw : Cond.fieldLink own ix "TollLedgerModel" "prices" "[I" ∈ cd :: BIG) (hd : decode cc pc = .ok (.getfield ix, 3)) (kk : J (wfm ad cs) X nL k n σ (pc + 3) loc (.ref (ad 39) :: rest)) : J (wfm ad cs) X nL k n σ pc loc (.ref (ad 18) :: rest) :=
  j_get (T := T_MD) (N := 39) (Cn := "TollLedgerModel") (ci := 10) (j := 31) C (fun w h => List.mem_cons_of_mem _ (in_MD w h)) ⟨18, rfl⟩ rfl (by decide) hw (Or.inl rfl) rfl hd kk
theorem g_MD_seen (C : JC X l0 D0 (ttf cs) eE cc own nL (cd :: BIG) fr lo ce sl) {ix : Nat} (hw : Cond.fieldLink own ix "TollLedgerModel" "seen" "[Z" ∈ cd :: BIG) (hd : decode cc pc = .ok (.getfield ix, 3)) (kk : J (wfm ad cs) X nL k n σ (pc + 3) loc (.ref (ad 40) :: rest)) : J (wfm ad cs) X nL k n σ pc loc (.ref (ad 18) :: rest) :=
  j_get (T := T_MD) (N := 39) (Cn := "TollLedgerModel") (ci := 10) (j := 32) C (fun w h => List.mem_cons_of_mem _ (in_MD w h)) ⟨18, rfl⟩ rfl (by decide) hw (Or.inl rfl) rfl hd kk
theorem g_MD_gone (C : JC X l0 D0 (ttf cs) eE cc own nL (cd :: BIG) fr lo ce sl) {ix : Nat} (hw : Cond.fieldLink own ix "TollLedgerModel" "gone" "[Z" ∈ cd :: BIG) (hd : decode cc pc = .ok (.getfield ix, 3)) (kk : J (wfm ad cs) X nL k n σ (pc + 3) loc (.ref (ad 41) :: rest)) : J (wfm ad cs) X nL k n σ pc loc (.ref (ad 18) :: rest) :=
  j_get (T := T_MD) (N := 39) (Cn := "TollLedgerModel") (ci := 10) (j := 33) C (fun w h => List.mem_cons_of_mem _ (in_MD w h)) ⟨18, rfl⟩ rfl (by decide) hw (Or.inl rfl) rfl hd kk
theorem g_MD_spent (C : JC X l0 D0 (ttf cs) eE cc own nL (cd :: BIG) fr lo ce sl) {ix : Nat} (hw : Cond.fieldLink own ix "TollLedgerModel" "spent" "[J" ∈ cd :: BIG) (hd : decode cc pc = .ok (.getfield ix, 3)) (kk : J (wfm ad cs) X nL k n σ (pc + 3) loc (.ref (ad 42) :: rest)) : J (wfm ad cs) X nL k n σ pc loc (.ref (ad 18) :: rest) :=
  j_get (T := T_MD) (N := 39) (Cn := "TollLedgerModel") (ci := 10) (j := 34) C (fun w h => List.mem_cons_of_mem _ (in_MD w h)) ⟨18, rfl⟩ rfl (by decide) hw (Or.inl rfl) rfl hd kk
theorem g_MD_got (C : JC X l0 D0 (ttf cs) eE cc own nL (cd :: BIG) fr lo ce sl) {ix : Nat} (hw : Cond.fieldLink own ix "TollLedgerModel" "got" "I" ∈ cd :: BIG) (hd : decode cc pc = .ok (.getfield ix, 3)) (kk : J (wfm ad cs) X nL k n σ (pc + 3) loc (.int (gI σ 32) :: rest)) : J (wfm ad cs) X nL k n σ pc loc (.ref (ad 18) :: rest) :=
  j_get (T := T_MD) (N := 39) (Cn := "TollLedgerModel") (ci := 10) (j := 35) C (fun w h => List.mem_cons_of_mem _ (in_MD w h)) ⟨18, rfl⟩ rfl (by decide) hw (Or.inl rfl) rfl hd kk
theorem p_MD_got (C : JC X l0 D0 (ttf cs) eE cc own nL (cd :: BIG) fr lo ce sl) {ix : Nat} {v : Int32} (e : σ' = sI σ 32 v) (hw : Cond.fieldLink own ix "TollLedgerModel" "got" "I" ∈ cd :: BIG) (hd : decode cc pc = .ok (.putfield ix, 3)) (kk : J (wfm ad cs) X nL k n σ' (pc + 3) loc (rest)) : J (wfm ad cs) X nL k n σ pc loc (.int v :: .ref (ad 18) :: rest) := by
  subst e
  exact j_put (T := T_MD) (N := 39) (Cn := "TollLedgerModel") (ci := 10) (j := 35) (ty := .int) C (fun w h => List.mem_cons_of_mem _ (in_MD w h)) tk_MD nm_MD (fun _ _ => ⟨18, rfl, rfl⟩) rfl (by decide) hw (Or.inl rfl) rfl (by decide +kernel) rfl rfl (Nat.le_of_ble_eq_true rfl) hd kk
theorem g_MD_priceSum (C : JC X l0 D0 (ttf cs) eE cc own nL (cd :: BIG) fr lo ce sl) {ix : Nat} (hw : Cond.fieldLink own ix "TollLedgerModel" "priceSum" "J" ∈ cd :: BIG) (hd : decode cc pc = .ok (.getfield ix, 3)) (kk : J (wfm ad cs) X nL k n σ (pc + 3) loc (.long (gL σ 0) :: rest)) : J (wfm ad cs) X nL k n σ pc loc (.ref (ad 18) :: rest) :=
  j_get (T := T_MD) (N := 39) (Cn := "TollLedgerModel") (ci := 10) (j := 36) C (fun w h => List.mem_cons_of_mem _ (in_MD w h)) ⟨18, rfl⟩ rfl (by decide) hw (Or.inl rfl) rfl hd kk
theorem p_MD_priceSum (C : JC X l0 D0 (ttf cs) eE cc own nL (cd :: BIG) fr lo ce sl) {ix : Nat} {v : Int64} (e : σ' = sL σ 0 v) (hw : Cond.fieldLink own ix "TollLedgerModel" "priceSum" "J" ∈ cd :: BIG) (hd : decode cc pc = .ok (.putfield ix, 3)) (kk : J (wfm ad cs) X nL k n σ' (pc + 3) loc (rest)) : J (wfm ad cs) X nL k n σ pc loc (.long v :: .ref (ad 18) :: rest) := by
  subst e
  exact j_put (T := T_MD) (N := 39) (Cn := "TollLedgerModel") (ci := 10) (j := 36) (ty := .long) C (fun w h => List.mem_cons_of_mem _ (in_MD w h)) tk_MD nm_MD (fun _ _ => ⟨18, rfl, rfl⟩) rfl (by decide) hw (Or.inl rfl) rfl (by decide +kernel) rfl rfl (Nat.le_of_ble_eq_true rfl) hd kk
theorem g_MD_costSum (C : JC X l0 D0 (ttf cs) eE cc own nL (cd :: BIG) fr lo ce sl) {ix : Nat} (hw : Cond.fieldLink own ix "TollLedgerModel" "costSum" "J" ∈ cd :: BIG) (hd : decode cc pc = .ok (.getfield ix, 3)) (kk : J (wfm ad cs) X nL k n σ (pc + 3) loc (.long (gL σ 1) :: rest)) : J (wfm ad cs) X nL k n σ pc loc (.ref (ad 18) :: rest) :=
  j_get (T := T_MD) (N := 39) (Cn := "TollLedgerModel") (ci := 10) (j := 37) C (fun w h => List.mem_cons_of_mem _ (in_MD w h)) ⟨18, rfl⟩ rfl (by decide) hw (Or.inl rfl) rfl hd kk
theorem p_MD_costSum (C : JC X l0 D0 (ttf cs) eE cc own nL (cd :: BIG) fr lo ce sl) {ix : Nat} {v : Int64} (e : σ' = sL σ 1 v) (hw : Cond.fieldLink own ix "TollLedgerModel" "costSum" "J" ∈ cd :: BIG) (hd : decode cc pc = .ok (.putfield ix, 3)) (kk : J (wfm ad cs) X nL k n σ' (pc + 3) loc (rest)) : J (wfm ad cs) X nL k n σ pc loc (.long v :: .ref (ad 18) :: rest) := by
  subst e
  exact j_put (T := T_MD) (N := 39) (Cn := "TollLedgerModel") (ci := 10) (j := 37) (ty := .long) C (fun w h => List.mem_cons_of_mem _ (in_MD w h)) tk_MD nm_MD (fun _ _ => ⟨18, rfl, rfl⟩) rfl (by decide) hw (Or.inl rfl) rfl (by decide +kernel) rfl rfl (Nat.le_of_ble_eq_true rfl) hd kk
theorem g_MD_inner (C : JC X l0 D0 (ttf cs) eE cc own nL (cd :: BIG) fr lo ce sl) {ix : Nat} (hw : Cond.fieldLink own ix "TollLedgerModel" "inner" "[I" ∈ cd :: BIG) (hd : decode cc pc = .ok (.getfield ix, 3)) (kk : J (wfm ad cs) X nL k n σ (pc + 3) loc (.ref (ad 43) :: rest)) : J (wfm ad cs) X nL k n σ pc loc (.ref (ad 18) :: rest) :=
  j_get (T := T_MD) (N := 39) (Cn := "TollLedgerModel") (ci := 10) (j := 38) C (fun w h => List.mem_cons_of_mem _ (in_MD w h)) ⟨18, rfl⟩ rfl (by decide) hw (Or.inl rfl) rfl hd kk
theorem la_acc (C : JC X l0 D0 (ttf cs) eE cc own nL (cd :: BIG) fr lo ce sl) {i : Int32} {q : Nat} (hin : ¬ (i < 0 ∨ 6 ≤ i.toNatClampNeg)) (hq : gR σ 0 i.toNatClampNeg = some q) (hd : decode cc pc = .ok (.aaload, 1)) (kk : J (wfm ad cs) X nL k n σ (pc + 1) loc (.ref q :: rest)) : J (wfm ad cs) X nL k n σ pc loc (.int i :: .ref (ad 8) :: rest) := j_aald C 3 ⟨8, rfl⟩ rfl hin hq hd kk
theorem sa_acc (C : JC X l0 D0 (ttf cs) eE cc own nL (cd :: BIG) fr lo ce sl) {i : Int32} {q : Nat} (hv : q ∈ pL σ ∧ pK σ q = 1) (hin : ¬ (i < 0 ∨ 6 ≤ i.toNatClampNeg)) (e : σ' = sR σ 0 i.toNatClampNeg (some q)) (hd : decode cc pc = .ok (.aastore, 1)) (kk : J (wfm ad cs) X nL k n σ' (pc + 1) loc (rest)) : J (wfm ad cs) X nL k n σ pc loc (.ref q :: .int i :: .ref (ad 8) :: rest) := by
  subst e
  exact j_aast (r := ("TollLedger$Account", T_AC, 4)) C 3 (fun _ _ => ⟨8, rfl, rfl⟩) rfl (rdp1 hv) rfl hin hd kk
theorem la_bal (C : JC X l0 D0 (ttf cs) eE cc own nL (cd :: BIG) fr lo ce sl) {i : Int32} (hin : ¬ (i < 0 ∨ 72 ≤ i.toNatClampNeg)) (hd : decode cc pc = .ok (.iaload, 1)) (kk : J (wfm ad cs) X nL k n σ (pc + 1) loc (.int (gA σ 0 i.toNatClampNeg) :: rest)) : J (wfm ad cs) X nL k n σ pc loc (.int i :: .ref (ad 9) :: rest) := j_iald C 0 ⟨9, rfl⟩ rfl hin hd kk
theorem sa_bal (C : JC X l0 D0 (ttf cs) eE cc own nL (cd :: BIG) fr lo ce sl) {i x : Int32} (hin : ¬ (i < 0 ∨ 72 ≤ i.toNatClampNeg)) (e : σ' = sA σ 0 i.toNatClampNeg x) (hd : decode cc pc = .ok (.iastore, 1)) (kk : J (wfm ad cs) X nL k n σ' (pc + 1) loc (rest)) : J (wfm ad cs) X nL k n σ pc loc (.int x :: .int i :: .ref (ad 9) :: rest) := by
  subst e
  exact j_iast C 0 (fun _ _ => ⟨9, rfl, rfl⟩) rfl hin hd kk
theorem la_lim (C : JC X l0 D0 (ttf cs) eE cc own nL (cd :: BIG) fr lo ce sl) {i : Int32} (hin : ¬ (i < 0 ∨ 72 ≤ i.toNatClampNeg)) (hd : decode cc pc = .ok (.iaload, 1)) (kk : J (wfm ad cs) X nL k n σ (pc + 1) loc (.int (gA σ 1 i.toNatClampNeg) :: rest)) : J (wfm ad cs) X nL k n σ pc loc (.int i :: .ref (ad 10) :: rest) := j_iald C 0 ⟨10, rfl⟩ rfl hin hd kk
theorem sa_lim (C : JC X l0 D0 (ttf cs) eE cc own nL (cd :: BIG) fr lo ce sl) {i x : Int32} (hin : ¬ (i < 0 ∨ 72 ≤ i.toNatClampNeg)) (e : σ' = sA σ 1 i.toNatClampNeg x) (hd : decode cc pc = .ok (.iastore, 1)) (kk : J (wfm ad cs) X nL k n σ' (pc + 1) loc (rest)) : J (wfm ad cs) X nL k n σ pc loc (.int x :: .int i :: .ref (ad 10) :: rest) := by
  subst e
  exact j_iast C 0 (fun _ _ => ⟨10, rfl, rfl⟩) rfl hin hd kk
theorem la_qui (C : JC X l0 D0 (ttf cs) eE cc own nL (cd :: BIG) fr lo ce sl) {i : Int32} (hin : ¬ (i < 0 ∨ 72 ≤ i.toNatClampNeg)) (hd : decode cc pc = .ok (.baload, 1)) (kk : J (wfm ad cs) X nL k n σ (pc + 1) loc (.int (gA σ 2 i.toNatClampNeg) :: rest)) : J (wfm ad cs) X nL k n σ pc loc (.int i :: .ref (ad 11) :: rest) := j_zald C 1 ⟨11, rfl⟩ rfl hin hd kk
theorem sa_qui (C : JC X l0 D0 (ttf cs) eE cc own nL (cd :: BIG) fr lo ce sl) {i x : Int32} (hz : x = 0 ∨ x = 1) (hin : ¬ (i < 0 ∨ 72 ≤ i.toNatClampNeg)) (e : σ' = sA σ 2 i.toNatClampNeg x) (hd : decode cc pc = .ok (.bastore, 1)) (kk : J (wfm ad cs) X nL k n σ' (pc + 1) loc (rest)) : J (wfm ad cs) X nL k n σ pc loc (.int x :: .int i :: .ref (ad 11) :: rest) := by
  subst e
  exact j_zast C 1 hz (fun _ _ => ⟨11, rfl, rfl⟩) rfl hin hd kk
theorem la_row (C : JC X l0 D0 (ttf cs) eE cc own nL (cd :: BIG) fr lo ce sl) {i : Int32} {q : Nat} (hin : ¬ (i < 0 ∨ 12 ≤ i.toNatClampNeg)) (hq : gR σ 1 i.toNatClampNeg = some q) (hd : decode cc pc = .ok (.aaload, 1)) (kk : J (wfm ad cs) X nL k n σ (pc + 1) loc (.ref q :: rest)) : J (wfm ad cs) X nL k n σ pc loc (.int i :: .ref (ad 12) :: rest) := j_aald C 4 ⟨12, rfl⟩ rfl hin hq hd kk
theorem sa_row (C : JC X l0 D0 (ttf cs) eE cc own nL (cd :: BIG) fr lo ce sl) {i : Int32} {q : Nat} (hv : q ∈ pL σ ∧ pK σ q = 2) (hin : ¬ (i < 0 ∨ 12 ≤ i.toNatClampNeg)) (e : σ' = sR σ 1 i.toNatClampNeg (some q)) (hd : decode cc pc = .ok (.aastore, 1)) (kk : J (wfm ad cs) X nL k n σ' (pc + 1) loc (rest)) : J (wfm ad cs) X nL k n σ pc loc (.ref q :: .int i :: .ref (ad 12) :: rest) := by
  subst e
  exact j_aast (r := ("TollLedger$Offer", T_OF, 6)) C 4 (fun _ _ => ⟨12, rfl, rfl⟩) rfl (rdp2 hv) rfl hin hd kk
theorem la_amo (C : JC X l0 D0 (ttf cs) eE cc own nL (cd :: BIG) fr lo ce sl) {i : Int32} (hin : ¬ (i < 0 ∨ 12 ≤ i.toNatClampNeg)) (hd : decode cc pc = .ok (.iaload, 1)) (kk : J (wfm ad cs) X nL k n σ (pc + 1) loc (.int (gA σ 3 i.toNatClampNeg) :: rest)) : J (wfm ad cs) X nL k n σ pc loc (.int i :: .ref (ad 13) :: rest) := j_iald C 0 ⟨13, rfl⟩ rfl hin hd kk
theorem sa_amo (C : JC X l0 D0 (ttf cs) eE cc own nL (cd :: BIG) fr lo ce sl) {i x : Int32} (hin : ¬ (i < 0 ∨ 12 ≤ i.toNatClampNeg)) (e : σ' = sA σ 3 i.toNatClampNeg x) (hd : decode cc pc = .ok (.iastore, 1)) (kk : J (wfm ad cs) X nL k n σ' (pc + 1) loc (rest)) : J (wfm ad cs) X nL k n σ pc loc (.int x :: .int i :: .ref (ad 13) :: rest) := by
  subst e
  exact j_iast C 0 (fun _ _ => ⟨13, rfl, rfl⟩) rfl hin hd kk
theorem la_pri (C : JC X l0 D0 (ttf cs) eE cc own nL (cd :: BIG) fr lo ce sl) {i : Int32} (hin : ¬ (i < 0 ∨ 12 ≤ i.toNatClampNeg)) (hd : decode cc pc = .ok (.iaload, 1)) (kk : J (wfm ad cs) X nL k n σ (pc + 1) loc (.int (gA σ 4 i.toNatClampNeg) :: rest)) : J (wfm ad cs) X nL k n σ pc loc (.int i :: .ref (ad 14) :: rest) := j_iald C 0 ⟨14, rfl⟩ rfl hin hd kk
theorem sa_pri (C : JC X l0 D0 (ttf cs) eE cc own nL (cd :: BIG) fr lo ce sl) {i x : Int32} (hin : ¬ (i < 0 ∨ 12 ≤ i.toNatClampNeg)) (e : σ' = sA σ 4 i.toNatClampNeg x) (hd : decode cc pc = .ok (.iastore, 1)) (kk : J (wfm ad cs) X nL k n σ' (pc + 1) loc (rest)) : J (wfm ad cs) X nL k n σ pc loc (.int x :: .int i :: .ref (ad 14) :: rest) := by
  subst e
  exact j_iast C 0 (fun _ _ => ⟨14, rfl, rfl⟩) rfl hin hd kk
theorem la_fun (C : JC X l0 D0 (ttf cs) eE cc own nL (cd :: BIG) fr lo ce sl) {i : Int32} (hin : ¬ (i < 0 ∨ 6 ≤ i.toNatClampNeg)) (hd : decode cc pc = .ok (.iaload, 1)) (kk : J (wfm ad cs) X nL k n σ (pc + 1) loc (.int (gA σ 5 i.toNatClampNeg) :: rest)) : J (wfm ad cs) X nL k n σ pc loc (.int i :: .ref (ad 15) :: rest) := j_iald C 0 ⟨15, rfl⟩ rfl hin hd kk
theorem sa_fun (C : JC X l0 D0 (ttf cs) eE cc own nL (cd :: BIG) fr lo ce sl) {i x : Int32} (hin : ¬ (i < 0 ∨ 6 ≤ i.toNatClampNeg)) (e : σ' = sA σ 5 i.toNatClampNeg x) (hd : decode cc pc = .ok (.iastore, 1)) (kk : J (wfm ad cs) X nL k n σ' (pc + 1) loc (rest)) : J (wfm ad cs) X nL k n σ pc loc (.int x :: .int i :: .ref (ad 15) :: rest) := by
  subst e
  exact j_iast C 0 (fun _ _ => ⟨15, rfl, rfl⟩) rfl hin hd kk
theorem la_pur (C : JC X l0 D0 (ttf cs) eE cc own nL (cd :: BIG) fr lo ce sl) {i : Int32} (hin : ¬ (i < 0 ∨ 6 ≤ i.toNatClampNeg)) (hd : decode cc pc = .ok (.iaload, 1)) (kk : J (wfm ad cs) X nL k n σ (pc + 1) loc (.int (gA σ 6 i.toNatClampNeg) :: rest)) : J (wfm ad cs) X nL k n σ pc loc (.int i :: .ref (ad 16) :: rest) := j_iald C 0 ⟨16, rfl⟩ rfl hin hd kk
theorem sa_pur (C : JC X l0 D0 (ttf cs) eE cc own nL (cd :: BIG) fr lo ce sl) {i x : Int32} (hin : ¬ (i < 0 ∨ 6 ≤ i.toNatClampNeg)) (e : σ' = sA σ 6 i.toNatClampNeg x) (hd : decode cc pc = .ok (.iastore, 1)) (kk : J (wfm ad cs) X nL k n σ' (pc + 1) loc (rest)) : J (wfm ad cs) X nL k n σ pc loc (.int x :: .int i :: .ref (ad 16) :: rest) := by
  subst e
  exact j_iast C 0 (fun _ _ => ⟨16, rfl, rfl⟩) rfl hin hd kk
theorem la_lrow (C : JC X l0 D0 (ttf cs) eE cc own nL (cd :: BIG) fr lo ce sl) {i : Int32} (hin : ¬ (i < 0 ∨ 64 ≤ i.toNatClampNeg)) (hd : decode cc pc = .ok (.iaload, 1)) (kk : J (wfm ad cs) X nL k n σ (pc + 1) loc (.int (gA σ 7 i.toNatClampNeg) :: rest)) : J (wfm ad cs) X nL k n σ pc loc (.int i :: .ref (ad 17) :: rest) := j_iald C 0 ⟨17, rfl⟩ rfl hin hd kk
theorem sa_lrow (C : JC X l0 D0 (ttf cs) eE cc own nL (cd :: BIG) fr lo ce sl) {i x : Int32} (hin : ¬ (i < 0 ∨ 64 ≤ i.toNatClampNeg)) (e : σ' = sA σ 7 i.toNatClampNeg x) (hd : decode cc pc = .ok (.iastore, 1)) (kk : J (wfm ad cs) X nL k n σ' (pc + 1) loc (rest)) : J (wfm ad cs) X nL k n σ pc loc (.int x :: .int i :: .ref (ad 17) :: rest) := by
  subst e
  exact j_iast C 0 (fun _ _ => ⟨17, rfl, rfl⟩) rfl hin hd kk
theorem al_lrow (C : JC X l0 D0 (ttf cs) eE cc own nL (cd :: BIG) fr lo ce sl) (hd : decode cc pc = .ok (.arraylength, 1)) (kk : J (wfm ad cs) X nL k n σ (pc + 1) loc (.int (nI 64) :: rest)) : J (wfm ad cs) X nL k n σ pc loc (.ref (ad 17) :: rest) := j_alen (ty := .int) C 0 ⟨17, rfl⟩ rfl hd kk
theorem la_m_exists (C : JC X l0 D0 (ttf cs) eE cc own nL (cd :: BIG) fr lo ce sl) {i : Int32} (hin : ¬ (i < 0 ∨ 6 ≤ i.toNatClampNeg)) (hd : decode cc pc = .ok (.baload, 1)) (kk : J (wfm ad cs) X nL k n σ (pc + 1) loc (.int (gA σ 8 i.toNatClampNeg) :: rest)) : J (wfm ad cs) X nL k n σ pc loc (.int i :: .ref (ad 19) :: rest) := j_zald C 1 ⟨19, rfl⟩ rfl hin hd kk
theorem sa_m_exists (C : JC X l0 D0 (ttf cs) eE cc own nL (cd :: BIG) fr lo ce sl) {i x : Int32} (hz : x = 0 ∨ x = 1) (hin : ¬ (i < 0 ∨ 6 ≤ i.toNatClampNeg)) (e : σ' = sA σ 8 i.toNatClampNeg x) (hd : decode cc pc = .ok (.bastore, 1)) (kk : J (wfm ad cs) X nL k n σ' (pc + 1) loc (rest)) : J (wfm ad cs) X nL k n σ pc loc (.int x :: .int i :: .ref (ad 19) :: rest) := by
  subst e
  exact j_zast C 1 hz (fun _ _ => ⟨19, rfl, rfl⟩) rfl hin hd kk
theorem la_m_coins (C : JC X l0 D0 (ttf cs) eE cc own nL (cd :: BIG) fr lo ce sl) {i : Int32} (hin : ¬ (i < 0 ∨ 6 ≤ i.toNatClampNeg)) (hd : decode cc pc = .ok (.iaload, 1)) (kk : J (wfm ad cs) X nL k n σ (pc + 1) loc (.int (gA σ 9 i.toNatClampNeg) :: rest)) : J (wfm ad cs) X nL k n σ pc loc (.int i :: .ref (ad 20) :: rest) := j_iald C 0 ⟨20, rfl⟩ rfl hin hd kk
theorem sa_m_coins (C : JC X l0 D0 (ttf cs) eE cc own nL (cd :: BIG) fr lo ce sl) {i x : Int32} (hin : ¬ (i < 0 ∨ 6 ≤ i.toNatClampNeg)) (e : σ' = sA σ 9 i.toNatClampNeg x) (hd : decode cc pc = .ok (.iastore, 1)) (kk : J (wfm ad cs) X nL k n σ' (pc + 1) loc (rest)) : J (wfm ad cs) X nL k n σ pc loc (.int x :: .int i :: .ref (ad 20) :: rest) := by
  subst e
  exact j_iast C 0 (fun _ _ => ⟨20, rfl, rfl⟩) rfl hin hd kk
theorem la_m_numbers (C : JC X l0 D0 (ttf cs) eE cc own nL (cd :: BIG) fr lo ce sl) {i : Int32} (hin : ¬ (i < 0 ∨ 6 ≤ i.toNatClampNeg)) (hd : decode cc pc = .ok (.iaload, 1)) (kk : J (wfm ad cs) X nL k n σ (pc + 1) loc (.int (gA σ 10 i.toNatClampNeg) :: rest)) : J (wfm ad cs) X nL k n σ pc loc (.int i :: .ref (ad 21) :: rest) := j_iald C 0 ⟨21, rfl⟩ rfl hin hd kk
theorem sa_m_numbers (C : JC X l0 D0 (ttf cs) eE cc own nL (cd :: BIG) fr lo ce sl) {i x : Int32} (hin : ¬ (i < 0 ∨ 6 ≤ i.toNatClampNeg)) (e : σ' = sA σ 10 i.toNatClampNeg x) (hd : decode cc pc = .ok (.iastore, 1)) (kk : J (wfm ad cs) X nL k n σ' (pc + 1) loc (rest)) : J (wfm ad cs) X nL k n σ pc loc (.int x :: .int i :: .ref (ad 21) :: rest) := by
  subst e
  exact j_iast C 0 (fun _ _ => ⟨21, rfl, rfl⟩) rfl hin hd kk
theorem la_m_rates (C : JC X l0 D0 (ttf cs) eE cc own nL (cd :: BIG) fr lo ce sl) {i : Int32} (hin : ¬ (i < 0 ∨ 6 ≤ i.toNatClampNeg)) (hd : decode cc pc = .ok (.iaload, 1)) (kk : J (wfm ad cs) X nL k n σ (pc + 1) loc (.int (gA σ 11 i.toNatClampNeg) :: rest)) : J (wfm ad cs) X nL k n σ pc loc (.int i :: .ref (ad 22) :: rest) := j_iald C 0 ⟨22, rfl⟩ rfl hin hd kk
theorem sa_m_rates (C : JC X l0 D0 (ttf cs) eE cc own nL (cd :: BIG) fr lo ce sl) {i x : Int32} (hin : ¬ (i < 0 ∨ 6 ≤ i.toNatClampNeg)) (e : σ' = sA σ 11 i.toNatClampNeg x) (hd : decode cc pc = .ok (.iastore, 1)) (kk : J (wfm ad cs) X nL k n σ' (pc + 1) loc (rest)) : J (wfm ad cs) X nL k n σ pc loc (.int x :: .int i :: .ref (ad 22) :: rest) := by
  subst e
  exact j_iast C 0 (fun _ _ => ⟨22, rfl, rfl⟩) rfl hin hd kk
theorem la_m_balances (C : JC X l0 D0 (ttf cs) eE cc own nL (cd :: BIG) fr lo ce sl) {i : Int32} (hin : ¬ (i < 0 ∨ 72 ≤ i.toNatClampNeg)) (hd : decode cc pc = .ok (.iaload, 1)) (kk : J (wfm ad cs) X nL k n σ (pc + 1) loc (.int (gA σ 12 i.toNatClampNeg) :: rest)) : J (wfm ad cs) X nL k n σ pc loc (.int i :: .ref (ad 23) :: rest) := j_iald C 0 ⟨23, rfl⟩ rfl hin hd kk
theorem sa_m_balances (C : JC X l0 D0 (ttf cs) eE cc own nL (cd :: BIG) fr lo ce sl) {i x : Int32} (hin : ¬ (i < 0 ∨ 72 ≤ i.toNatClampNeg)) (e : σ' = sA σ 12 i.toNatClampNeg x) (hd : decode cc pc = .ok (.iastore, 1)) (kk : J (wfm ad cs) X nL k n σ' (pc + 1) loc (rest)) : J (wfm ad cs) X nL k n σ pc loc (.int x :: .int i :: .ref (ad 23) :: rest) := by
  subst e
  exact j_iast C 0 (fun _ _ => ⟨23, rfl, rfl⟩) rfl hin hd kk
theorem la_m_limits (C : JC X l0 D0 (ttf cs) eE cc own nL (cd :: BIG) fr lo ce sl) {i : Int32} (hin : ¬ (i < 0 ∨ 72 ≤ i.toNatClampNeg)) (hd : decode cc pc = .ok (.iaload, 1)) (kk : J (wfm ad cs) X nL k n σ (pc + 1) loc (.int (gA σ 13 i.toNatClampNeg) :: rest)) : J (wfm ad cs) X nL k n σ pc loc (.int i :: .ref (ad 24) :: rest) := j_iald C 0 ⟨24, rfl⟩ rfl hin hd kk
theorem sa_m_limits (C : JC X l0 D0 (ttf cs) eE cc own nL (cd :: BIG) fr lo ce sl) {i x : Int32} (hin : ¬ (i < 0 ∨ 72 ≤ i.toNatClampNeg)) (e : σ' = sA σ 13 i.toNatClampNeg x) (hd : decode cc pc = .ok (.iastore, 1)) (kk : J (wfm ad cs) X nL k n σ' (pc + 1) loc (rest)) : J (wfm ad cs) X nL k n σ pc loc (.int x :: .int i :: .ref (ad 24) :: rest) := by
  subst e
  exact j_iast C 0 (fun _ _ => ⟨24, rfl, rfl⟩) rfl hin hd kk
theorem la_m_quiets (C : JC X l0 D0 (ttf cs) eE cc own nL (cd :: BIG) fr lo ce sl) {i : Int32} (hin : ¬ (i < 0 ∨ 72 ≤ i.toNatClampNeg)) (hd : decode cc pc = .ok (.baload, 1)) (kk : J (wfm ad cs) X nL k n σ (pc + 1) loc (.int (gA σ 14 i.toNatClampNeg) :: rest)) : J (wfm ad cs) X nL k n σ pc loc (.int i :: .ref (ad 25) :: rest) := j_zald C 1 ⟨25, rfl⟩ rfl hin hd kk
theorem sa_m_quiets (C : JC X l0 D0 (ttf cs) eE cc own nL (cd :: BIG) fr lo ce sl) {i x : Int32} (hz : x = 0 ∨ x = 1) (hin : ¬ (i < 0 ∨ 72 ≤ i.toNatClampNeg)) (e : σ' = sA σ 14 i.toNatClampNeg x) (hd : decode cc pc = .ok (.bastore, 1)) (kk : J (wfm ad cs) X nL k n σ' (pc + 1) loc (rest)) : J (wfm ad cs) X nL k n σ pc loc (.int x :: .int i :: .ref (ad 25) :: rest) := by
  subst e
  exact j_zast C 1 hz (fun _ _ => ⟨25, rfl, rfl⟩) rfl hin hd kk
theorem la_m_offerId (C : JC X l0 D0 (ttf cs) eE cc own nL (cd :: BIG) fr lo ce sl) {i : Int32} (hin : ¬ (i < 0 ∨ 12 ≤ i.toNatClampNeg)) (hd : decode cc pc = .ok (.iaload, 1)) (kk : J (wfm ad cs) X nL k n σ (pc + 1) loc (.int (gA σ 15 i.toNatClampNeg) :: rest)) : J (wfm ad cs) X nL k n σ pc loc (.int i :: .ref (ad 26) :: rest) := j_iald C 0 ⟨26, rfl⟩ rfl hin hd kk
theorem sa_m_offerId (C : JC X l0 D0 (ttf cs) eE cc own nL (cd :: BIG) fr lo ce sl) {i x : Int32} (hin : ¬ (i < 0 ∨ 12 ≤ i.toNatClampNeg)) (e : σ' = sA σ 15 i.toNatClampNeg x) (hd : decode cc pc = .ok (.iastore, 1)) (kk : J (wfm ad cs) X nL k n σ' (pc + 1) loc (rest)) : J (wfm ad cs) X nL k n σ pc loc (.int x :: .int i :: .ref (ad 26) :: rest) := by
  subst e
  exact j_iast C 0 (fun _ _ => ⟨26, rfl, rfl⟩) rfl hin hd kk
theorem la_m_ownerOf (C : JC X l0 D0 (ttf cs) eE cc own nL (cd :: BIG) fr lo ce sl) {i : Int32} (hin : ¬ (i < 0 ∨ 12 ≤ i.toNatClampNeg)) (hd : decode cc pc = .ok (.iaload, 1)) (kk : J (wfm ad cs) X nL k n σ (pc + 1) loc (.int (gA σ 16 i.toNatClampNeg) :: rest)) : J (wfm ad cs) X nL k n σ pc loc (.int i :: .ref (ad 27) :: rest) := j_iald C 0 ⟨27, rfl⟩ rfl hin hd kk
theorem sa_m_ownerOf (C : JC X l0 D0 (ttf cs) eE cc own nL (cd :: BIG) fr lo ce sl) {i x : Int32} (hin : ¬ (i < 0 ∨ 12 ≤ i.toNatClampNeg)) (e : σ' = sA σ 16 i.toNatClampNeg x) (hd : decode cc pc = .ok (.iastore, 1)) (kk : J (wfm ad cs) X nL k n σ' (pc + 1) loc (rest)) : J (wfm ad cs) X nL k n σ pc loc (.int x :: .int i :: .ref (ad 27) :: rest) := by
  subst e
  exact j_iast C 0 (fun _ _ => ⟨27, rfl, rfl⟩) rfl hin hd kk
theorem la_m_wantsOf (C : JC X l0 D0 (ttf cs) eE cc own nL (cd :: BIG) fr lo ce sl) {i : Int32} (hin : ¬ (i < 0 ∨ 12 ≤ i.toNatClampNeg)) (hd : decode cc pc = .ok (.iaload, 1)) (kk : J (wfm ad cs) X nL k n σ (pc + 1) loc (.int (gA σ 17 i.toNatClampNeg) :: rest)) : J (wfm ad cs) X nL k n σ pc loc (.int i :: .ref (ad 28) :: rest) := j_iald C 0 ⟨28, rfl⟩ rfl hin hd kk
theorem sa_m_wantsOf (C : JC X l0 D0 (ttf cs) eE cc own nL (cd :: BIG) fr lo ce sl) {i x : Int32} (hin : ¬ (i < 0 ∨ 12 ≤ i.toNatClampNeg)) (e : σ' = sA σ 17 i.toNatClampNeg x) (hd : decode cc pc = .ok (.iastore, 1)) (kk : J (wfm ad cs) X nL k n σ' (pc + 1) loc (rest)) : J (wfm ad cs) X nL k n σ pc loc (.int x :: .int i :: .ref (ad 28) :: rest) := by
  subst e
  exact j_iast C 0 (fun _ _ => ⟨28, rfl, rfl⟩) rfl hin hd kk
theorem la_m_givesOf (C : JC X l0 D0 (ttf cs) eE cc own nL (cd :: BIG) fr lo ce sl) {i : Int32} (hin : ¬ (i < 0 ∨ 12 ≤ i.toNatClampNeg)) (hd : decode cc pc = .ok (.iaload, 1)) (kk : J (wfm ad cs) X nL k n σ (pc + 1) loc (.int (gA σ 18 i.toNatClampNeg) :: rest)) : J (wfm ad cs) X nL k n σ pc loc (.int i :: .ref (ad 29) :: rest) := j_iald C 0 ⟨29, rfl⟩ rfl hin hd kk
theorem sa_m_givesOf (C : JC X l0 D0 (ttf cs) eE cc own nL (cd :: BIG) fr lo ce sl) {i x : Int32} (hin : ¬ (i < 0 ∨ 12 ≤ i.toNatClampNeg)) (e : σ' = sA σ 18 i.toNatClampNeg x) (hd : decode cc pc = .ok (.iastore, 1)) (kk : J (wfm ad cs) X nL k n σ' (pc + 1) loc (rest)) : J (wfm ad cs) X nL k n σ pc loc (.int x :: .int i :: .ref (ad 29) :: rest) := by
  subst e
  exact j_iast C 0 (fun _ _ => ⟨29, rfl, rfl⟩) rfl hin hd kk
theorem la_m_wOf (C : JC X l0 D0 (ttf cs) eE cc own nL (cd :: BIG) fr lo ce sl) {i : Int32} (hin : ¬ (i < 0 ∨ 12 ≤ i.toNatClampNeg)) (hd : decode cc pc = .ok (.iaload, 1)) (kk : J (wfm ad cs) X nL k n σ (pc + 1) loc (.int (gA σ 19 i.toNatClampNeg) :: rest)) : J (wfm ad cs) X nL k n σ pc loc (.int i :: .ref (ad 30) :: rest) := j_iald C 0 ⟨30, rfl⟩ rfl hin hd kk
theorem sa_m_wOf (C : JC X l0 D0 (ttf cs) eE cc own nL (cd :: BIG) fr lo ce sl) {i x : Int32} (hin : ¬ (i < 0 ∨ 12 ≤ i.toNatClampNeg)) (e : σ' = sA σ 19 i.toNatClampNeg x) (hd : decode cc pc = .ok (.iastore, 1)) (kk : J (wfm ad cs) X nL k n σ' (pc + 1) loc (rest)) : J (wfm ad cs) X nL k n σ pc loc (.int x :: .int i :: .ref (ad 30) :: rest) := by
  subst e
  exact j_iast C 0 (fun _ _ => ⟨30, rfl, rfl⟩) rfl hin hd kk
theorem la_m_gOf (C : JC X l0 D0 (ttf cs) eE cc own nL (cd :: BIG) fr lo ce sl) {i : Int32} (hin : ¬ (i < 0 ∨ 12 ≤ i.toNatClampNeg)) (hd : decode cc pc = .ok (.iaload, 1)) (kk : J (wfm ad cs) X nL k n σ (pc + 1) loc (.int (gA σ 20 i.toNatClampNeg) :: rest)) : J (wfm ad cs) X nL k n σ pc loc (.int i :: .ref (ad 31) :: rest) := j_iald C 0 ⟨31, rfl⟩ rfl hin hd kk
theorem sa_m_gOf (C : JC X l0 D0 (ttf cs) eE cc own nL (cd :: BIG) fr lo ce sl) {i x : Int32} (hin : ¬ (i < 0 ∨ 12 ≤ i.toNatClampNeg)) (e : σ' = sA σ 20 i.toNatClampNeg x) (hd : decode cc pc = .ok (.iastore, 1)) (kk : J (wfm ad cs) X nL k n σ' (pc + 1) loc (rest)) : J (wfm ad cs) X nL k n σ pc loc (.int x :: .int i :: .ref (ad 31) :: rest) := by
  subst e
  exact j_iast C 0 (fun _ _ => ⟨31, rfl, rfl⟩) rfl hin hd kk
theorem la_m_depositId (C : JC X l0 D0 (ttf cs) eE cc own nL (cd :: BIG) fr lo ce sl) {i : Int32} (hin : ¬ (i < 0 ∨ 6 ≤ i.toNatClampNeg)) (hd : decode cc pc = .ok (.iaload, 1)) (kk : J (wfm ad cs) X nL k n σ (pc + 1) loc (.int (gA σ 21 i.toNatClampNeg) :: rest)) : J (wfm ad cs) X nL k n σ pc loc (.int i :: .ref (ad 32) :: rest) := j_iald C 0 ⟨32, rfl⟩ rfl hin hd kk
theorem sa_m_depositId (C : JC X l0 D0 (ttf cs) eE cc own nL (cd :: BIG) fr lo ce sl) {i x : Int32} (hin : ¬ (i < 0 ∨ 6 ≤ i.toNatClampNeg)) (e : σ' = sA σ 21 i.toNatClampNeg x) (hd : decode cc pc = .ok (.iastore, 1)) (kk : J (wfm ad cs) X nL k n σ' (pc + 1) loc (rest)) : J (wfm ad cs) X nL k n σ pc loc (.int x :: .int i :: .ref (ad 32) :: rest) := by
  subst e
  exact j_iast C 0 (fun _ _ => ⟨32, rfl, rfl⟩) rfl hin hd kk
theorem la_m_fromOf (C : JC X l0 D0 (ttf cs) eE cc own nL (cd :: BIG) fr lo ce sl) {i : Int32} (hin : ¬ (i < 0 ∨ 6 ≤ i.toNatClampNeg)) (hd : decode cc pc = .ok (.iaload, 1)) (kk : J (wfm ad cs) X nL k n σ (pc + 1) loc (.int (gA σ 22 i.toNatClampNeg) :: rest)) : J (wfm ad cs) X nL k n σ pc loc (.int i :: .ref (ad 33) :: rest) := j_iald C 0 ⟨33, rfl⟩ rfl hin hd kk
theorem sa_m_fromOf (C : JC X l0 D0 (ttf cs) eE cc own nL (cd :: BIG) fr lo ce sl) {i x : Int32} (hin : ¬ (i < 0 ∨ 6 ≤ i.toNatClampNeg)) (e : σ' = sA σ 22 i.toNatClampNeg x) (hd : decode cc pc = .ok (.iastore, 1)) (kk : J (wfm ad cs) X nL k n σ' (pc + 1) loc (rest)) : J (wfm ad cs) X nL k n σ pc loc (.int x :: .int i :: .ref (ad 33) :: rest) := by
  subst e
  exact j_iast C 0 (fun _ _ => ⟨33, rfl, rfl⟩) rfl hin hd kk
theorem la_m_toOf (C : JC X l0 D0 (ttf cs) eE cc own nL (cd :: BIG) fr lo ce sl) {i : Int32} (hin : ¬ (i < 0 ∨ 6 ≤ i.toNatClampNeg)) (hd : decode cc pc = .ok (.iaload, 1)) (kk : J (wfm ad cs) X nL k n σ (pc + 1) loc (.int (gA σ 23 i.toNatClampNeg) :: rest)) : J (wfm ad cs) X nL k n σ pc loc (.int i :: .ref (ad 34) :: rest) := j_iald C 0 ⟨34, rfl⟩ rfl hin hd kk
theorem sa_m_toOf (C : JC X l0 D0 (ttf cs) eE cc own nL (cd :: BIG) fr lo ce sl) {i x : Int32} (hin : ¬ (i < 0 ∨ 6 ≤ i.toNatClampNeg)) (e : σ' = sA σ 23 i.toNatClampNeg x) (hd : decode cc pc = .ok (.iastore, 1)) (kk : J (wfm ad cs) X nL k n σ' (pc + 1) loc (rest)) : J (wfm ad cs) X nL k n σ pc loc (.int x :: .int i :: .ref (ad 34) :: rest) := by
  subst e
  exact j_iast C 0 (fun _ _ => ⟨34, rfl, rfl⟩) rfl hin hd kk
theorem la_m_heldOf (C : JC X l0 D0 (ttf cs) eE cc own nL (cd :: BIG) fr lo ce sl) {i : Int32} (hin : ¬ (i < 0 ∨ 6 ≤ i.toNatClampNeg)) (hd : decode cc pc = .ok (.iaload, 1)) (kk : J (wfm ad cs) X nL k n σ (pc + 1) loc (.int (gA σ 24 i.toNatClampNeg) :: rest)) : J (wfm ad cs) X nL k n σ pc loc (.int i :: .ref (ad 35) :: rest) := j_iald C 0 ⟨35, rfl⟩ rfl hin hd kk
theorem sa_m_heldOf (C : JC X l0 D0 (ttf cs) eE cc own nL (cd :: BIG) fr lo ce sl) {i x : Int32} (hin : ¬ (i < 0 ∨ 6 ≤ i.toNatClampNeg)) (e : σ' = sA σ 24 i.toNatClampNeg x) (hd : decode cc pc = .ok (.iastore, 1)) (kk : J (wfm ad cs) X nL k n σ' (pc + 1) loc (rest)) : J (wfm ad cs) X nL k n σ pc loc (.int x :: .int i :: .ref (ad 35) :: rest) := by
  subst e
  exact j_iast C 0 (fun _ _ => ⟨35, rfl, rfl⟩) rfl hin hd kk
theorem la_m_afterOf (C : JC X l0 D0 (ttf cs) eE cc own nL (cd :: BIG) fr lo ce sl) {i : Int32} (hin : ¬ (i < 0 ∨ 6 ≤ i.toNatClampNeg)) (hd : decode cc pc = .ok (.iaload, 1)) (kk : J (wfm ad cs) X nL k n σ (pc + 1) loc (.int (gA σ 25 i.toNatClampNeg) :: rest)) : J (wfm ad cs) X nL k n σ pc loc (.int i :: .ref (ad 36) :: rest) := j_iald C 0 ⟨36, rfl⟩ rfl hin hd kk
theorem sa_m_afterOf (C : JC X l0 D0 (ttf cs) eE cc own nL (cd :: BIG) fr lo ce sl) {i x : Int32} (hin : ¬ (i < 0 ∨ 6 ≤ i.toNatClampNeg)) (e : σ' = sA σ 25 i.toNatClampNeg x) (hd : decode cc pc = .ok (.iastore, 1)) (kk : J (wfm ad cs) X nL k n σ' (pc + 1) loc (rest)) : J (wfm ad cs) X nL k n σ pc loc (.int x :: .int i :: .ref (ad 36) :: rest) := by
  subst e
  exact j_iast C 0 (fun _ _ => ⟨36, rfl, rfl⟩) rfl hin hd kk
theorem la_m_untilOf (C : JC X l0 D0 (ttf cs) eE cc own nL (cd :: BIG) fr lo ce sl) {i : Int32} (hin : ¬ (i < 0 ∨ 6 ≤ i.toNatClampNeg)) (hd : decode cc pc = .ok (.iaload, 1)) (kk : J (wfm ad cs) X nL k n σ (pc + 1) loc (.int (gA σ 26 i.toNatClampNeg) :: rest)) : J (wfm ad cs) X nL k n σ pc loc (.int i :: .ref (ad 37) :: rest) := j_iald C 0 ⟨37, rfl⟩ rfl hin hd kk
theorem sa_m_untilOf (C : JC X l0 D0 (ttf cs) eE cc own nL (cd :: BIG) fr lo ce sl) {i x : Int32} (hin : ¬ (i < 0 ∨ 6 ≤ i.toNatClampNeg)) (e : σ' = sA σ 26 i.toNatClampNeg x) (hd : decode cc pc = .ok (.iastore, 1)) (kk : J (wfm ad cs) X nL k n σ' (pc + 1) loc (rest)) : J (wfm ad cs) X nL k n σ pc loc (.int x :: .int i :: .ref (ad 37) :: rest) := by
  subst e
  exact j_iast C 0 (fun _ _ => ⟨37, rfl, rfl⟩) rfl hin hd kk
theorem la_m_taken (C : JC X l0 D0 (ttf cs) eE cc own nL (cd :: BIG) fr lo ce sl) {i : Int32} (hin : ¬ (i < 0 ∨ 12 ≤ i.toNatClampNeg)) (hd : decode cc pc = .ok (.iaload, 1)) (kk : J (wfm ad cs) X nL k n σ (pc + 1) loc (.int (gA σ 27 i.toNatClampNeg) :: rest)) : J (wfm ad cs) X nL k n σ pc loc (.int i :: .ref (ad 38) :: rest) := j_iald C 0 ⟨38, rfl⟩ rfl hin hd kk
theorem sa_m_taken (C : JC X l0 D0 (ttf cs) eE cc own nL (cd :: BIG) fr lo ce sl) {i x : Int32} (hin : ¬ (i < 0 ∨ 12 ≤ i.toNatClampNeg)) (e : σ' = sA σ 27 i.toNatClampNeg x) (hd : decode cc pc = .ok (.iastore, 1)) (kk : J (wfm ad cs) X nL k n σ' (pc + 1) loc (rest)) : J (wfm ad cs) X nL k n σ pc loc (.int x :: .int i :: .ref (ad 38) :: rest) := by
  subst e
  exact j_iast C 0 (fun _ _ => ⟨38, rfl, rfl⟩) rfl hin hd kk
theorem la_m_prices (C : JC X l0 D0 (ttf cs) eE cc own nL (cd :: BIG) fr lo ce sl) {i : Int32} (hin : ¬ (i < 0 ∨ 12 ≤ i.toNatClampNeg)) (hd : decode cc pc = .ok (.iaload, 1)) (kk : J (wfm ad cs) X nL k n σ (pc + 1) loc (.int (gA σ 28 i.toNatClampNeg) :: rest)) : J (wfm ad cs) X nL k n σ pc loc (.int i :: .ref (ad 39) :: rest) := j_iald C 0 ⟨39, rfl⟩ rfl hin hd kk
theorem sa_m_prices (C : JC X l0 D0 (ttf cs) eE cc own nL (cd :: BIG) fr lo ce sl) {i x : Int32} (hin : ¬ (i < 0 ∨ 12 ≤ i.toNatClampNeg)) (e : σ' = sA σ 28 i.toNatClampNeg x) (hd : decode cc pc = .ok (.iastore, 1)) (kk : J (wfm ad cs) X nL k n σ' (pc + 1) loc (rest)) : J (wfm ad cs) X nL k n σ pc loc (.int x :: .int i :: .ref (ad 39) :: rest) := by
  subst e
  exact j_iast C 0 (fun _ _ => ⟨39, rfl, rfl⟩) rfl hin hd kk
theorem la_m_seen (C : JC X l0 D0 (ttf cs) eE cc own nL (cd :: BIG) fr lo ce sl) {i : Int32} (hin : ¬ (i < 0 ∨ 12 ≤ i.toNatClampNeg)) (hd : decode cc pc = .ok (.baload, 1)) (kk : J (wfm ad cs) X nL k n σ (pc + 1) loc (.int (gA σ 29 i.toNatClampNeg) :: rest)) : J (wfm ad cs) X nL k n σ pc loc (.int i :: .ref (ad 40) :: rest) := j_zald C 1 ⟨40, rfl⟩ rfl hin hd kk
theorem sa_m_seen (C : JC X l0 D0 (ttf cs) eE cc own nL (cd :: BIG) fr lo ce sl) {i x : Int32} (hz : x = 0 ∨ x = 1) (hin : ¬ (i < 0 ∨ 12 ≤ i.toNatClampNeg)) (e : σ' = sA σ 29 i.toNatClampNeg x) (hd : decode cc pc = .ok (.bastore, 1)) (kk : J (wfm ad cs) X nL k n σ' (pc + 1) loc (rest)) : J (wfm ad cs) X nL k n σ pc loc (.int x :: .int i :: .ref (ad 40) :: rest) := by
  subst e
  exact j_zast C 1 hz (fun _ _ => ⟨40, rfl, rfl⟩) rfl hin hd kk
theorem la_m_gone (C : JC X l0 D0 (ttf cs) eE cc own nL (cd :: BIG) fr lo ce sl) {i : Int32} (hin : ¬ (i < 0 ∨ 12 ≤ i.toNatClampNeg)) (hd : decode cc pc = .ok (.baload, 1)) (kk : J (wfm ad cs) X nL k n σ (pc + 1) loc (.int (gA σ 30 i.toNatClampNeg) :: rest)) : J (wfm ad cs) X nL k n σ pc loc (.int i :: .ref (ad 41) :: rest) := j_zald C 1 ⟨41, rfl⟩ rfl hin hd kk
theorem sa_m_gone (C : JC X l0 D0 (ttf cs) eE cc own nL (cd :: BIG) fr lo ce sl) {i x : Int32} (hz : x = 0 ∨ x = 1) (hin : ¬ (i < 0 ∨ 12 ≤ i.toNatClampNeg)) (e : σ' = sA σ 30 i.toNatClampNeg x) (hd : decode cc pc = .ok (.bastore, 1)) (kk : J (wfm ad cs) X nL k n σ' (pc + 1) loc (rest)) : J (wfm ad cs) X nL k n σ pc loc (.int x :: .int i :: .ref (ad 41) :: rest) := by
  subst e
  exact j_zast C 1 hz (fun _ _ => ⟨41, rfl, rfl⟩) rfl hin hd kk
theorem la_m_spent (C : JC X l0 D0 (ttf cs) eE cc own nL (cd :: BIG) fr lo ce sl) {i : Int32} (hin : ¬ (i < 0 ∨ 6 ≤ i.toNatClampNeg)) (hd : decode cc pc = .ok (.laload, 1)) (kk : J (wfm ad cs) X nL k n σ (pc + 1) loc (.long (gV σ i.toNatClampNeg) :: rest)) : J (wfm ad cs) X nL k n σ pc loc (.int i :: .ref (ad 42) :: rest) := j_lald C 2 ⟨42, rfl⟩ rfl hin hd kk
theorem sa_m_spent (C : JC X l0 D0 (ttf cs) eE cc own nL (cd :: BIG) fr lo ce sl) {i : Int32} {x : Int64} (hin : ¬ (i < 0 ∨ 6 ≤ i.toNatClampNeg)) (e : σ' = sV σ i.toNatClampNeg x) (hd : decode cc pc = .ok (.lastore, 1)) (kk : J (wfm ad cs) X nL k n σ' (pc + 1) loc (rest)) : J (wfm ad cs) X nL k n σ pc loc (.long x :: .int i :: .ref (ad 42) :: rest) := by
  subst e
  exact j_last C 2 (fun _ _ => ⟨42, rfl, rfl⟩) rfl hin hd kk
theorem la_m_inner (C : JC X l0 D0 (ttf cs) eE cc own nL (cd :: BIG) fr lo ce sl) {i : Int32} (hin : ¬ (i < 0 ∨ 4 ≤ i.toNatClampNeg)) (hd : decode cc pc = .ok (.iaload, 1)) (kk : J (wfm ad cs) X nL k n σ (pc + 1) loc (.int (gA σ 31 i.toNatClampNeg) :: rest)) : J (wfm ad cs) X nL k n σ pc loc (.int i :: .ref (ad 43) :: rest) := j_iald C 0 ⟨43, rfl⟩ rfl hin hd kk
theorem sa_m_inner (C : JC X l0 D0 (ttf cs) eE cc own nL (cd :: BIG) fr lo ce sl) {i x : Int32} (hin : ¬ (i < 0 ∨ 4 ≤ i.toNatClampNeg)) (e : σ' = sA σ 31 i.toNatClampNeg x) (hd : decode cc pc = .ok (.iastore, 1)) (kk : J (wfm ad cs) X nL k n σ' (pc + 1) loc (rest)) : J (wfm ad cs) X nL k n σ pc loc (.int x :: .int i :: .ref (ad 43) :: rest) := by
  subst e
  exact j_iast C 0 (fun _ _ => ⟨43, rfl, rfl⟩) rfl hin hd kk
theorem la_pool (C : JC X l0 D0 (ttf cs) eE cc own nL (cd :: BIG) fr lo ce sl) {i : Int32} {a q : Nat} (h : a ∈ pL σ ∧ pK σ a = 0) (hin : ¬ (i < 0 ∨ pC σ a ≤ i.toNatClampNeg)) (hq : pR σ a i.toNatClampNeg = some q) (hd : decode cc pc = .ok (.aaload, 1)) (kk : J (wfm ad cs) X nL k n σ (pc + 1) loc (.ref q :: rest)) : J (wfm ad cs) X nL k n σ pc loc (.int i :: .ref a :: rest) := j_aald C 5 (rdp0 h) rfl hin hq hd kk
theorem sa_poolN (C : JC X l0 D0 (ttf cs) eE cc own nL (cd :: BIG) fr lo ce sl) {i : Int32} {a : Nat} (h : a ∈ pL σ ∧ pK σ a = 0) (hin : ¬ (i < 0 ∨ pC σ a ≤ i.toNatClampNeg)) (e : σ' = sQ σ a i.toNatClampNeg none) (hd : decode cc pc = .ok (.aastore, 1)) (kk : J (wfm ad cs) X nL k n σ' (pc + 1) loc (rest)) : J (wfm ad cs) X nL k n σ pc loc (.null :: .int i :: .ref a :: rest) := by
  subst e
  exact j_aastN C 5 (wrp0 h) rfl hin hd kk
theorem gp_Account_exists (C : JC X l0 D0 (ttf cs) eE cc own nL (cd :: BIG) fr lo ce sl) {ix q : Nat} (h : q ∈ pL σ ∧ pK σ q = 1) (hw : Cond.fieldLink own ix "TollLedger$Account" "exists" "Z" ∈ cd :: BIG) (hd : decode cc pc = .ok (.getfield ix, 3)) (kk : J (wfm ad cs) X nL k n σ (pc + 3) loc (.int (pP σ q 0) :: rest)) : J (wfm ad cs) X nL k n σ pc loc (.ref q :: rest) :=
  j_get (T := T_AC) (N := 4) (Cn := "TollLedger$Account") (ci := 6) (j := 0) C (fun w h => List.mem_cons_of_mem _ (in_AC w h)) (rdp1 h) rfl (by decide) hw (Or.inl rfl) rfl hd kk
theorem pp_Account_exists (C : JC X l0 D0 (ttf cs) eE cc own nL (cd :: BIG) fr lo ce sl) {ix q : Nat} {v : Int32} (h : q ∈ pL σ ∧ pK σ q = 1) (hz : v = 0 ∨ v = 1) (e : σ' = sP σ q 0 v) (hw : Cond.fieldLink own ix "TollLedger$Account" "exists" "Z" ∈ cd :: BIG) (hd : decode cc pc = .ok (.putfield ix, 3)) (kk : J (wfm ad cs) X nL k n σ' (pc + 3) loc (rest)) : J (wfm ad cs) X nL k n σ pc loc (.int v :: .ref q :: rest) := by
  subst e
  exact j_put (T := T_AC) (N := 4) (Cn := "TollLedger$Account") (ci := 6) (j := 0) (ty := .boolean) (fs := [.int (pP σ q 0), .int (pP σ q 1), .int (pP σ q 2), .int (pP σ q 3)]) C (fun w h => List.mem_cons_of_mem _ (in_AC w h)) tk_AC nm_AC (wrp1 (ad := ad) (cs := cs) (j := 0) (v := v) h) rfl (by decide) hw (Or.inl rfl) rfl (by decide +kernel) (by rcases hz with rfl | rfl <;> rfl) (by rcases hz with rfl | rfl <;> rfl) (Nat.le_of_ble_eq_true rfl) hd kk
theorem gp_Account_coins (C : JC X l0 D0 (ttf cs) eE cc own nL (cd :: BIG) fr lo ce sl) {ix q : Nat} (h : q ∈ pL σ ∧ pK σ q = 1) (hw : Cond.fieldLink own ix "TollLedger$Account" "coins" "I" ∈ cd :: BIG) (hd : decode cc pc = .ok (.getfield ix, 3)) (kk : J (wfm ad cs) X nL k n σ (pc + 3) loc (.int (pP σ q 1) :: rest)) : J (wfm ad cs) X nL k n σ pc loc (.ref q :: rest) :=
  j_get (T := T_AC) (N := 4) (Cn := "TollLedger$Account") (ci := 6) (j := 1) C (fun w h => List.mem_cons_of_mem _ (in_AC w h)) (rdp1 h) rfl (by decide) hw (Or.inl rfl) rfl hd kk
theorem pp_Account_coins (C : JC X l0 D0 (ttf cs) eE cc own nL (cd :: BIG) fr lo ce sl) {ix q : Nat} {v : Int32} (h : q ∈ pL σ ∧ pK σ q = 1) (e : σ' = sP σ q 1 v) (hw : Cond.fieldLink own ix "TollLedger$Account" "coins" "I" ∈ cd :: BIG) (hd : decode cc pc = .ok (.putfield ix, 3)) (kk : J (wfm ad cs) X nL k n σ' (pc + 3) loc (rest)) : J (wfm ad cs) X nL k n σ pc loc (.int v :: .ref q :: rest) := by
  subst e
  exact j_put (T := T_AC) (N := 4) (Cn := "TollLedger$Account") (ci := 6) (j := 1) (ty := .int) (fs := [.int (pP σ q 0), .int (pP σ q 1), .int (pP σ q 2), .int (pP σ q 3)]) C (fun w h => List.mem_cons_of_mem _ (in_AC w h)) tk_AC nm_AC (wrp1 (ad := ad) (cs := cs) (j := 1) (v := v) h) rfl (by decide) hw (Or.inl rfl) rfl (by decide +kernel) rfl rfl (Nat.le_of_ble_eq_true rfl) hd kk
theorem gp_Account_number (C : JC X l0 D0 (ttf cs) eE cc own nL (cd :: BIG) fr lo ce sl) {ix q : Nat} (h : q ∈ pL σ ∧ pK σ q = 1) (hw : Cond.fieldLink own ix "TollLedger$Account" "number" "I" ∈ cd :: BIG) (hd : decode cc pc = .ok (.getfield ix, 3)) (kk : J (wfm ad cs) X nL k n σ (pc + 3) loc (.int (pP σ q 2) :: rest)) : J (wfm ad cs) X nL k n σ pc loc (.ref q :: rest) :=
  j_get (T := T_AC) (N := 4) (Cn := "TollLedger$Account") (ci := 6) (j := 2) C (fun w h => List.mem_cons_of_mem _ (in_AC w h)) (rdp1 h) rfl (by decide) hw (Or.inl rfl) rfl hd kk
theorem pp_Account_number (C : JC X l0 D0 (ttf cs) eE cc own nL (cd :: BIG) fr lo ce sl) {ix q : Nat} {v : Int32} (h : q ∈ pL σ ∧ pK σ q = 1) (e : σ' = sP σ q 2 v) (hw : Cond.fieldLink own ix "TollLedger$Account" "number" "I" ∈ cd :: BIG) (hd : decode cc pc = .ok (.putfield ix, 3)) (kk : J (wfm ad cs) X nL k n σ' (pc + 3) loc (rest)) : J (wfm ad cs) X nL k n σ pc loc (.int v :: .ref q :: rest) := by
  subst e
  exact j_put (T := T_AC) (N := 4) (Cn := "TollLedger$Account") (ci := 6) (j := 2) (ty := .int) (fs := [.int (pP σ q 0), .int (pP σ q 1), .int (pP σ q 2), .int (pP σ q 3)]) C (fun w h => List.mem_cons_of_mem _ (in_AC w h)) tk_AC nm_AC (wrp1 (ad := ad) (cs := cs) (j := 2) (v := v) h) rfl (by decide) hw (Or.inl rfl) rfl (by decide +kernel) rfl rfl (Nat.le_of_ble_eq_true rfl) hd kk
theorem gp_Account_rate (C : JC X l0 D0 (ttf cs) eE cc own nL (cd :: BIG) fr lo ce sl) {ix q : Nat} (h : q ∈ pL σ ∧ pK σ q = 1) (hw : Cond.fieldLink own ix "TollLedger$Account" "rate" "I" ∈ cd :: BIG) (hd : decode cc pc = .ok (.getfield ix, 3)) (kk : J (wfm ad cs) X nL k n σ (pc + 3) loc (.int (pP σ q 3) :: rest)) : J (wfm ad cs) X nL k n σ pc loc (.ref q :: rest) :=
  j_get (T := T_AC) (N := 4) (Cn := "TollLedger$Account") (ci := 6) (j := 3) C (fun w h => List.mem_cons_of_mem _ (in_AC w h)) (rdp1 h) rfl (by decide) hw (Or.inl rfl) rfl hd kk
theorem pp_Account_rate (C : JC X l0 D0 (ttf cs) eE cc own nL (cd :: BIG) fr lo ce sl) {ix q : Nat} {v : Int32} (h : q ∈ pL σ ∧ pK σ q = 1) (e : σ' = sP σ q 3 v) (hw : Cond.fieldLink own ix "TollLedger$Account" "rate" "I" ∈ cd :: BIG) (hd : decode cc pc = .ok (.putfield ix, 3)) (kk : J (wfm ad cs) X nL k n σ' (pc + 3) loc (rest)) : J (wfm ad cs) X nL k n σ pc loc (.int v :: .ref q :: rest) := by
  subst e
  exact j_put (T := T_AC) (N := 4) (Cn := "TollLedger$Account") (ci := 6) (j := 3) (ty := .int) (fs := [.int (pP σ q 0), .int (pP σ q 1), .int (pP σ q 2), .int (pP σ q 3)]) C (fun w h => List.mem_cons_of_mem _ (in_AC w h)) tk_AC nm_AC (wrp1 (ad := ad) (cs := cs) (j := 3) (v := v) h) rfl (by decide) hw (Or.inl rfl) rfl (by decide +kernel) rfl rfl (Nat.le_of_ble_eq_true rfl) hd kk
theorem gp_Offer_id (C : JC X l0 D0 (ttf cs) eE cc own nL (cd :: BIG) fr lo ce sl) {ix q : Nat} (h : q ∈ pL σ ∧ pK σ q = 2) (hw : Cond.fieldLink own ix "TollLedger$Offer" "id" "I" ∈ cd :: BIG) (hd : decode cc pc = .ok (.getfield ix, 3)) (kk : J (wfm ad cs) X nL k n σ (pc + 3) loc (.int (pP σ q 0) :: rest)) : J (wfm ad cs) X nL k n σ pc loc (.ref q :: rest) :=
  j_get (T := T_OF) (N := 6) (Cn := "TollLedger$Offer") (ci := 7) (j := 0) C (fun w h => List.mem_cons_of_mem _ (in_OF w h)) (rdp2 h) rfl (by decide) hw (Or.inl rfl) rfl hd kk
theorem pp_Offer_id (C : JC X l0 D0 (ttf cs) eE cc own nL (cd :: BIG) fr lo ce sl) {ix q : Nat} {v : Int32} (h : q ∈ pL σ ∧ pK σ q = 2) (e : σ' = sP σ q 0 v) (hw : Cond.fieldLink own ix "TollLedger$Offer" "id" "I" ∈ cd :: BIG) (hd : decode cc pc = .ok (.putfield ix, 3)) (kk : J (wfm ad cs) X nL k n σ' (pc + 3) loc (rest)) : J (wfm ad cs) X nL k n σ pc loc (.int v :: .ref q :: rest) := by
  subst e
  exact j_put (T := T_OF) (N := 6) (Cn := "TollLedger$Offer") (ci := 7) (j := 0) (ty := .int) (fs := [.int (pP σ q 0), .int (pP σ q 1), .int (pP σ q 2), .int (pP σ q 3), .int (pP σ q 4), .int (pP σ q 5)]) C (fun w h => List.mem_cons_of_mem _ (in_OF w h)) tk_OF nm_OF (wrp2 (ad := ad) (cs := cs) (j := 0) (v := v) h) rfl (by decide) hw (Or.inl rfl) rfl (by decide +kernel) rfl rfl (Nat.le_of_ble_eq_true rfl) hd kk
theorem gp_Offer_owner (C : JC X l0 D0 (ttf cs) eE cc own nL (cd :: BIG) fr lo ce sl) {ix q : Nat} (h : q ∈ pL σ ∧ pK σ q = 2) (hw : Cond.fieldLink own ix "TollLedger$Offer" "owner" "I" ∈ cd :: BIG) (hd : decode cc pc = .ok (.getfield ix, 3)) (kk : J (wfm ad cs) X nL k n σ (pc + 3) loc (.int (pP σ q 1) :: rest)) : J (wfm ad cs) X nL k n σ pc loc (.ref q :: rest) :=
  j_get (T := T_OF) (N := 6) (Cn := "TollLedger$Offer") (ci := 7) (j := 1) C (fun w h => List.mem_cons_of_mem _ (in_OF w h)) (rdp2 h) rfl (by decide) hw (Or.inl rfl) rfl hd kk
theorem pp_Offer_owner (C : JC X l0 D0 (ttf cs) eE cc own nL (cd :: BIG) fr lo ce sl) {ix q : Nat} {v : Int32} (h : q ∈ pL σ ∧ pK σ q = 2) (e : σ' = sP σ q 1 v) (hw : Cond.fieldLink own ix "TollLedger$Offer" "owner" "I" ∈ cd :: BIG) (hd : decode cc pc = .ok (.putfield ix, 3)) (kk : J (wfm ad cs) X nL k n σ' (pc + 3) loc (rest)) : J (wfm ad cs) X nL k n σ pc loc (.int v :: .ref q :: rest) := by
  subst e
  exact j_put (T := T_OF) (N := 6) (Cn := "TollLedger$Offer") (ci := 7) (j := 1) (ty := .int) (fs := [.int (pP σ q 0), .int (pP σ q 1), .int (pP σ q 2), .int (pP σ q 3), .int (pP σ q 4), .int (pP σ q 5)]) C (fun w h => List.mem_cons_of_mem _ (in_OF w h)) tk_OF nm_OF (wrp2 (ad := ad) (cs := cs) (j := 1) (v := v) h) rfl (by decide) hw (Or.inl rfl) rfl (by decide +kernel) rfl rfl (Nat.le_of_ble_eq_true rfl) hd kk
theorem gp_Offer_wants (C : JC X l0 D0 (ttf cs) eE cc own nL (cd :: BIG) fr lo ce sl) {ix q : Nat} (h : q ∈ pL σ ∧ pK σ q = 2) (hw : Cond.fieldLink own ix "TollLedger$Offer" "wants" "I" ∈ cd :: BIG) (hd : decode cc pc = .ok (.getfield ix, 3)) (kk : J (wfm ad cs) X nL k n σ (pc + 3) loc (.int (pP σ q 2) :: rest)) : J (wfm ad cs) X nL k n σ pc loc (.ref q :: rest) :=
  j_get (T := T_OF) (N := 6) (Cn := "TollLedger$Offer") (ci := 7) (j := 2) C (fun w h => List.mem_cons_of_mem _ (in_OF w h)) (rdp2 h) rfl (by decide) hw (Or.inl rfl) rfl hd kk
theorem pp_Offer_wants (C : JC X l0 D0 (ttf cs) eE cc own nL (cd :: BIG) fr lo ce sl) {ix q : Nat} {v : Int32} (h : q ∈ pL σ ∧ pK σ q = 2) (e : σ' = sP σ q 2 v) (hw : Cond.fieldLink own ix "TollLedger$Offer" "wants" "I" ∈ cd :: BIG) (hd : decode cc pc = .ok (.putfield ix, 3)) (kk : J (wfm ad cs) X nL k n σ' (pc + 3) loc (rest)) : J (wfm ad cs) X nL k n σ pc loc (.int v :: .ref q :: rest) := by
  subst e
  exact j_put (T := T_OF) (N := 6) (Cn := "TollLedger$Offer") (ci := 7) (j := 2) (ty := .int) (fs := [.int (pP σ q 0), .int (pP σ q 1), .int (pP σ q 2), .int (pP σ q 3), .int (pP σ q 4), .int (pP σ q 5)]) C (fun w h => List.mem_cons_of_mem _ (in_OF w h)) tk_OF nm_OF (wrp2 (ad := ad) (cs := cs) (j := 2) (v := v) h) rfl (by decide) hw (Or.inl rfl) rfl (by decide +kernel) rfl rfl (Nat.le_of_ble_eq_true rfl) hd kk
theorem gp_Offer_w (C : JC X l0 D0 (ttf cs) eE cc own nL (cd :: BIG) fr lo ce sl) {ix q : Nat} (h : q ∈ pL σ ∧ pK σ q = 2) (hw : Cond.fieldLink own ix "TollLedger$Offer" "w" "I" ∈ cd :: BIG) (hd : decode cc pc = .ok (.getfield ix, 3)) (kk : J (wfm ad cs) X nL k n σ (pc + 3) loc (.int (pP σ q 3) :: rest)) : J (wfm ad cs) X nL k n σ pc loc (.ref q :: rest) :=
  j_get (T := T_OF) (N := 6) (Cn := "TollLedger$Offer") (ci := 7) (j := 3) C (fun w h => List.mem_cons_of_mem _ (in_OF w h)) (rdp2 h) rfl (by decide) hw (Or.inl rfl) rfl hd kk
theorem pp_Offer_w (C : JC X l0 D0 (ttf cs) eE cc own nL (cd :: BIG) fr lo ce sl) {ix q : Nat} {v : Int32} (h : q ∈ pL σ ∧ pK σ q = 2) (e : σ' = sP σ q 3 v) (hw : Cond.fieldLink own ix "TollLedger$Offer" "w" "I" ∈ cd :: BIG) (hd : decode cc pc = .ok (.putfield ix, 3)) (kk : J (wfm ad cs) X nL k n σ' (pc + 3) loc (rest)) : J (wfm ad cs) X nL k n σ pc loc (.int v :: .ref q :: rest) := by
  subst e
  exact j_put (T := T_OF) (N := 6) (Cn := "TollLedger$Offer") (ci := 7) (j := 3) (ty := .int) (fs := [.int (pP σ q 0), .int (pP σ q 1), .int (pP σ q 2), .int (pP σ q 3), .int (pP σ q 4), .int (pP σ q 5)]) C (fun w h => List.mem_cons_of_mem _ (in_OF w h)) tk_OF nm_OF (wrp2 (ad := ad) (cs := cs) (j := 3) (v := v) h) rfl (by decide) hw (Or.inl rfl) rfl (by decide +kernel) rfl rfl (Nat.le_of_ble_eq_true rfl) hd kk
theorem gp_Offer_gives (C : JC X l0 D0 (ttf cs) eE cc own nL (cd :: BIG) fr lo ce sl) {ix q : Nat} (h : q ∈ pL σ ∧ pK σ q = 2) (hw : Cond.fieldLink own ix "TollLedger$Offer" "gives" "I" ∈ cd :: BIG) (hd : decode cc pc = .ok (.getfield ix, 3)) (kk : J (wfm ad cs) X nL k n σ (pc + 3) loc (.int (pP σ q 4) :: rest)) : J (wfm ad cs) X nL k n σ pc loc (.ref q :: rest) :=
  j_get (T := T_OF) (N := 6) (Cn := "TollLedger$Offer") (ci := 7) (j := 4) C (fun w h => List.mem_cons_of_mem _ (in_OF w h)) (rdp2 h) rfl (by decide) hw (Or.inl rfl) rfl hd kk
theorem pp_Offer_gives (C : JC X l0 D0 (ttf cs) eE cc own nL (cd :: BIG) fr lo ce sl) {ix q : Nat} {v : Int32} (h : q ∈ pL σ ∧ pK σ q = 2) (e : σ' = sP σ q 4 v) (hw : Cond.fieldLink own ix "TollLedger$Offer" "gives" "I" ∈ cd :: BIG) (hd : decode cc pc = .ok (.putfield ix, 3)) (kk : J (wfm ad cs) X nL k n σ' (pc + 3) loc (rest)) : J (wfm ad cs) X nL k n σ pc loc (.int v :: .ref q :: rest) := by
  subst e
  exact j_put (T := T_OF) (N := 6) (Cn := "TollLedger$Offer") (ci := 7) (j := 4) (ty := .int) (fs := [.int (pP σ q 0), .int (pP σ q 1), .int (pP σ q 2), .int (pP σ q 3), .int (pP σ q 4), .int (pP σ q 5)]) C (fun w h => List.mem_cons_of_mem _ (in_OF w h)) tk_OF nm_OF (wrp2 (ad := ad) (cs := cs) (j := 4) (v := v) h) rfl (by decide) hw (Or.inl rfl) rfl (by decide +kernel) rfl rfl (Nat.le_of_ble_eq_true rfl) hd kk
theorem gp_Offer_g (C : JC X l0 D0 (ttf cs) eE cc own nL (cd :: BIG) fr lo ce sl) {ix q : Nat} (h : q ∈ pL σ ∧ pK σ q = 2) (hw : Cond.fieldLink own ix "TollLedger$Offer" "g" "I" ∈ cd :: BIG) (hd : decode cc pc = .ok (.getfield ix, 3)) (kk : J (wfm ad cs) X nL k n σ (pc + 3) loc (.int (pP σ q 5) :: rest)) : J (wfm ad cs) X nL k n σ pc loc (.ref q :: rest) :=
  j_get (T := T_OF) (N := 6) (Cn := "TollLedger$Offer") (ci := 7) (j := 5) C (fun w h => List.mem_cons_of_mem _ (in_OF w h)) (rdp2 h) rfl (by decide) hw (Or.inl rfl) rfl hd kk
theorem pp_Offer_g (C : JC X l0 D0 (ttf cs) eE cc own nL (cd :: BIG) fr lo ce sl) {ix q : Nat} {v : Int32} (h : q ∈ pL σ ∧ pK σ q = 2) (e : σ' = sP σ q 5 v) (hw : Cond.fieldLink own ix "TollLedger$Offer" "g" "I" ∈ cd :: BIG) (hd : decode cc pc = .ok (.putfield ix, 3)) (kk : J (wfm ad cs) X nL k n σ' (pc + 3) loc (rest)) : J (wfm ad cs) X nL k n σ pc loc (.int v :: .ref q :: rest) := by
  subst e
  exact j_put (T := T_OF) (N := 6) (Cn := "TollLedger$Offer") (ci := 7) (j := 5) (ty := .int) (fs := [.int (pP σ q 0), .int (pP σ q 1), .int (pP σ q 2), .int (pP σ q 3), .int (pP σ q 4), .int (pP σ q 5)]) C (fun w h => List.mem_cons_of_mem _ (in_OF w h)) tk_OF nm_OF (wrp2 (ad := ad) (cs := cs) (j := 5) (v := v) h) rfl (by decide) hw (Or.inl rfl) rfl (by decide +kernel) rfl rfl (Nat.le_of_ble_eq_true rfl) hd kk
theorem cc_Offer (C : JC X l0 D0 (ttf cs) eE cc own nL (cd :: BIG) fr lo ce sl) {ix q : Nat} (h : q ∈ pL σ ∧ pK σ q = 2) (hw : Cond.classLink own ix "TollLedger$Offer" ∈ cd :: BIG) (hd : decode cc pc = .ok (.checkcast ix, 3)) (kk : J (wfm ad cs) X nL k n σ (pc + 3) loc (.ref q :: rest)) : J (wfm ad cs) X nL k n σ pc loc (.ref q :: rest) := j_cast (Cn := "TollLedger$Offer") (T := T_OF) (N := 6) C (rdp2 h) rfl (by decide +kernel) hw hd kk
theorem gp_Deposit_id (C : JC X l0 D0 (ttf cs) eE cc own nL (cd :: BIG) fr lo ce sl) {ix q : Nat} (h : q ∈ pL σ ∧ pK σ q = 3) (hw : Cond.fieldLink own ix "TollLedger$Deposit" "id" "I" ∈ cd :: BIG) (hd : decode cc pc = .ok (.getfield ix, 3)) (kk : J (wfm ad cs) X nL k n σ (pc + 3) loc (.int (pP σ q 0) :: rest)) : J (wfm ad cs) X nL k n σ pc loc (.ref q :: rest) :=
  j_get (T := T_DP) (N := 6) (Cn := "TollLedger$Deposit") (ci := 8) (j := 0) C (fun w h => List.mem_cons_of_mem _ (in_DP w h)) (rdp3 h) rfl (by decide) hw (Or.inl rfl) rfl hd kk
theorem pp_Deposit_id (C : JC X l0 D0 (ttf cs) eE cc own nL (cd :: BIG) fr lo ce sl) {ix q : Nat} {v : Int32} (h : q ∈ pL σ ∧ pK σ q = 3) (e : σ' = sP σ q 0 v) (hw : Cond.fieldLink own ix "TollLedger$Deposit" "id" "I" ∈ cd :: BIG) (hd : decode cc pc = .ok (.putfield ix, 3)) (kk : J (wfm ad cs) X nL k n σ' (pc + 3) loc (rest)) : J (wfm ad cs) X nL k n σ pc loc (.int v :: .ref q :: rest) := by
  subst e
  exact j_put (T := T_DP) (N := 6) (Cn := "TollLedger$Deposit") (ci := 8) (j := 0) (ty := .int) (fs := [.int (pP σ q 0), .int (pP σ q 1), .int (pP σ q 2), .int (pP σ q 3), .int (pP σ q 4), .int (pP σ q 5)]) C (fun w h => List.mem_cons_of_mem _ (in_DP w h)) tk_DP nm_DP (wrp3 (ad := ad) (cs := cs) (j := 0) (v := v) h) rfl (by decide) hw (Or.inl rfl) rfl (by decide +kernel) rfl rfl (Nat.le_of_ble_eq_true rfl) hd kk
theorem gp_Deposit_from (C : JC X l0 D0 (ttf cs) eE cc own nL (cd :: BIG) fr lo ce sl) {ix q : Nat} (h : q ∈ pL σ ∧ pK σ q = 3) (hw : Cond.fieldLink own ix "TollLedger$Deposit" "from" "I" ∈ cd :: BIG) (hd : decode cc pc = .ok (.getfield ix, 3)) (kk : J (wfm ad cs) X nL k n σ (pc + 3) loc (.int (pP σ q 1) :: rest)) : J (wfm ad cs) X nL k n σ pc loc (.ref q :: rest) :=
  j_get (T := T_DP) (N := 6) (Cn := "TollLedger$Deposit") (ci := 8) (j := 1) C (fun w h => List.mem_cons_of_mem _ (in_DP w h)) (rdp3 h) rfl (by decide) hw (Or.inl rfl) rfl hd kk
theorem pp_Deposit_from (C : JC X l0 D0 (ttf cs) eE cc own nL (cd :: BIG) fr lo ce sl) {ix q : Nat} {v : Int32} (h : q ∈ pL σ ∧ pK σ q = 3) (e : σ' = sP σ q 1 v) (hw : Cond.fieldLink own ix "TollLedger$Deposit" "from" "I" ∈ cd :: BIG) (hd : decode cc pc = .ok (.putfield ix, 3)) (kk : J (wfm ad cs) X nL k n σ' (pc + 3) loc (rest)) : J (wfm ad cs) X nL k n σ pc loc (.int v :: .ref q :: rest) := by
  subst e
  exact j_put (T := T_DP) (N := 6) (Cn := "TollLedger$Deposit") (ci := 8) (j := 1) (ty := .int) (fs := [.int (pP σ q 0), .int (pP σ q 1), .int (pP σ q 2), .int (pP σ q 3), .int (pP σ q 4), .int (pP σ q 5)]) C (fun w h => List.mem_cons_of_mem _ (in_DP w h)) tk_DP nm_DP (wrp3 (ad := ad) (cs := cs) (j := 1) (v := v) h) rfl (by decide) hw (Or.inl rfl) rfl (by decide +kernel) rfl rfl (Nat.le_of_ble_eq_true rfl) hd kk
theorem gp_Deposit_to (C : JC X l0 D0 (ttf cs) eE cc own nL (cd :: BIG) fr lo ce sl) {ix q : Nat} (h : q ∈ pL σ ∧ pK σ q = 3) (hw : Cond.fieldLink own ix "TollLedger$Deposit" "to" "I" ∈ cd :: BIG) (hd : decode cc pc = .ok (.getfield ix, 3)) (kk : J (wfm ad cs) X nL k n σ (pc + 3) loc (.int (pP σ q 2) :: rest)) : J (wfm ad cs) X nL k n σ pc loc (.ref q :: rest) :=
  j_get (T := T_DP) (N := 6) (Cn := "TollLedger$Deposit") (ci := 8) (j := 2) C (fun w h => List.mem_cons_of_mem _ (in_DP w h)) (rdp3 h) rfl (by decide) hw (Or.inl rfl) rfl hd kk
theorem pp_Deposit_to (C : JC X l0 D0 (ttf cs) eE cc own nL (cd :: BIG) fr lo ce sl) {ix q : Nat} {v : Int32} (h : q ∈ pL σ ∧ pK σ q = 3) (e : σ' = sP σ q 2 v) (hw : Cond.fieldLink own ix "TollLedger$Deposit" "to" "I" ∈ cd :: BIG) (hd : decode cc pc = .ok (.putfield ix, 3)) (kk : J (wfm ad cs) X nL k n σ' (pc + 3) loc (rest)) : J (wfm ad cs) X nL k n σ pc loc (.int v :: .ref q :: rest) := by
  subst e
  exact j_put (T := T_DP) (N := 6) (Cn := "TollLedger$Deposit") (ci := 8) (j := 2) (ty := .int) (fs := [.int (pP σ q 0), .int (pP σ q 1), .int (pP σ q 2), .int (pP σ q 3), .int (pP σ q 4), .int (pP σ q 5)]) C (fun w h => List.mem_cons_of_mem _ (in_DP w h)) tk_DP nm_DP (wrp3 (ad := ad) (cs := cs) (j := 2) (v := v) h) rfl (by decide) hw (Or.inl rfl) rfl (by decide +kernel) rfl rfl (Nat.le_of_ble_eq_true rfl) hd kk
theorem gp_Deposit_coins (C : JC X l0 D0 (ttf cs) eE cc own nL (cd :: BIG) fr lo ce sl) {ix q : Nat} (h : q ∈ pL σ ∧ pK σ q = 3) (hw : Cond.fieldLink own ix "TollLedger$Deposit" "coins" "I" ∈ cd :: BIG) (hd : decode cc pc = .ok (.getfield ix, 3)) (kk : J (wfm ad cs) X nL k n σ (pc + 3) loc (.int (pP σ q 3) :: rest)) : J (wfm ad cs) X nL k n σ pc loc (.ref q :: rest) :=
  j_get (T := T_DP) (N := 6) (Cn := "TollLedger$Deposit") (ci := 8) (j := 3) C (fun w h => List.mem_cons_of_mem _ (in_DP w h)) (rdp3 h) rfl (by decide) hw (Or.inl rfl) rfl hd kk
theorem pp_Deposit_coins (C : JC X l0 D0 (ttf cs) eE cc own nL (cd :: BIG) fr lo ce sl) {ix q : Nat} {v : Int32} (h : q ∈ pL σ ∧ pK σ q = 3) (e : σ' = sP σ q 3 v) (hw : Cond.fieldLink own ix "TollLedger$Deposit" "coins" "I" ∈ cd :: BIG) (hd : decode cc pc = .ok (.putfield ix, 3)) (kk : J (wfm ad cs) X nL k n σ' (pc + 3) loc (rest)) : J (wfm ad cs) X nL k n σ pc loc (.int v :: .ref q :: rest) := by
  subst e
  exact j_put (T := T_DP) (N := 6) (Cn := "TollLedger$Deposit") (ci := 8) (j := 3) (ty := .int) (fs := [.int (pP σ q 0), .int (pP σ q 1), .int (pP σ q 2), .int (pP σ q 3), .int (pP σ q 4), .int (pP σ q 5)]) C (fun w h => List.mem_cons_of_mem _ (in_DP w h)) tk_DP nm_DP (wrp3 (ad := ad) (cs := cs) (j := 3) (v := v) h) rfl (by decide) hw (Or.inl rfl) rfl (by decide +kernel) rfl rfl (Nat.le_of_ble_eq_true rfl) hd kk
theorem gp_Deposit_after (C : JC X l0 D0 (ttf cs) eE cc own nL (cd :: BIG) fr lo ce sl) {ix q : Nat} (h : q ∈ pL σ ∧ pK σ q = 3) (hw : Cond.fieldLink own ix "TollLedger$Deposit" "after" "I" ∈ cd :: BIG) (hd : decode cc pc = .ok (.getfield ix, 3)) (kk : J (wfm ad cs) X nL k n σ (pc + 3) loc (.int (pP σ q 4) :: rest)) : J (wfm ad cs) X nL k n σ pc loc (.ref q :: rest) :=
  j_get (T := T_DP) (N := 6) (Cn := "TollLedger$Deposit") (ci := 8) (j := 4) C (fun w h => List.mem_cons_of_mem _ (in_DP w h)) (rdp3 h) rfl (by decide) hw (Or.inl rfl) rfl hd kk
theorem pp_Deposit_after (C : JC X l0 D0 (ttf cs) eE cc own nL (cd :: BIG) fr lo ce sl) {ix q : Nat} {v : Int32} (h : q ∈ pL σ ∧ pK σ q = 3) (e : σ' = sP σ q 4 v) (hw : Cond.fieldLink own ix "TollLedger$Deposit" "after" "I" ∈ cd :: BIG) (hd : decode cc pc = .ok (.putfield ix, 3)) (kk : J (wfm ad cs) X nL k n σ' (pc + 3) loc (rest)) : J (wfm ad cs) X nL k n σ pc loc (.int v :: .ref q :: rest) := by
  subst e
  exact j_put (T := T_DP) (N := 6) (Cn := "TollLedger$Deposit") (ci := 8) (j := 4) (ty := .int) (fs := [.int (pP σ q 0), .int (pP σ q 1), .int (pP σ q 2), .int (pP σ q 3), .int (pP σ q 4), .int (pP σ q 5)]) C (fun w h => List.mem_cons_of_mem _ (in_DP w h)) tk_DP nm_DP (wrp3 (ad := ad) (cs := cs) (j := 4) (v := v) h) rfl (by decide) hw (Or.inl rfl) rfl (by decide +kernel) rfl rfl (Nat.le_of_ble_eq_true rfl) hd kk
theorem gp_Deposit_until (C : JC X l0 D0 (ttf cs) eE cc own nL (cd :: BIG) fr lo ce sl) {ix q : Nat} (h : q ∈ pL σ ∧ pK σ q = 3) (hw : Cond.fieldLink own ix "TollLedger$Deposit" "until" "I" ∈ cd :: BIG) (hd : decode cc pc = .ok (.getfield ix, 3)) (kk : J (wfm ad cs) X nL k n σ (pc + 3) loc (.int (pP σ q 5) :: rest)) : J (wfm ad cs) X nL k n σ pc loc (.ref q :: rest) :=
  j_get (T := T_DP) (N := 6) (Cn := "TollLedger$Deposit") (ci := 8) (j := 5) C (fun w h => List.mem_cons_of_mem _ (in_DP w h)) (rdp3 h) rfl (by decide) hw (Or.inl rfl) rfl hd kk
theorem pp_Deposit_until (C : JC X l0 D0 (ttf cs) eE cc own nL (cd :: BIG) fr lo ce sl) {ix q : Nat} {v : Int32} (h : q ∈ pL σ ∧ pK σ q = 3) (e : σ' = sP σ q 5 v) (hw : Cond.fieldLink own ix "TollLedger$Deposit" "until" "I" ∈ cd :: BIG) (hd : decode cc pc = .ok (.putfield ix, 3)) (kk : J (wfm ad cs) X nL k n σ' (pc + 3) loc (rest)) : J (wfm ad cs) X nL k n σ pc loc (.int v :: .ref q :: rest) := by
  subst e
  exact j_put (T := T_DP) (N := 6) (Cn := "TollLedger$Deposit") (ci := 8) (j := 5) (ty := .int) (fs := [.int (pP σ q 0), .int (pP σ q 1), .int (pP σ q 2), .int (pP σ q 3), .int (pP σ q 4), .int (pP σ q 5)]) C (fun w h => List.mem_cons_of_mem _ (in_DP w h)) tk_DP nm_DP (wrp3 (ad := ad) (cs := cs) (j := 5) (v := v) h) rfl (by decide) hw (Or.inl rfl) rfl (by decide +kernel) rfl rfl (Nat.le_of_ble_eq_true rfl) hd kk
theorem cc_Deposit (C : JC X l0 D0 (ttf cs) eE cc own nL (cd :: BIG) fr lo ce sl) {ix q : Nat} (h : q ∈ pL σ ∧ pK σ q = 3) (hw : Cond.classLink own ix "TollLedger$Deposit" ∈ cd :: BIG) (hd : decode cc pc = .ok (.checkcast ix, 3)) (kk : J (wfm ad cs) X nL k n σ (pc + 3) loc (.ref q :: rest)) : J (wfm ad cs) X nL k n σ pc loc (.ref q :: rest) := j_cast (Cn := "TollLedger$Deposit") (T := T_DP) (N := 6) C (rdp3 h) rfl (by decide +kernel) hw hd kk
/-- each place from lo on holds nothing, or a pooled cell of this kind -/
def allIn (σ : ST) (a lo n kd : Nat) : Bool := (List.range n).all (fun i => match pR σ a (lo + i) with
  | none => true
  | some y => decide (y ∈ pL σ ∧ pK σ y = kd))
theorem allIn_at {σ : ST} {a lo n kd : Nat} (h : allIn σ a lo n kd = true) (i : Nat) (hi : i < n) (y : Nat) (hy : pR σ a (lo + i) = some y) : y ∈ pL σ ∧ pK σ y = kd := by
  have h1 := List.all_eq_true.mp h i (List.mem_range.mpr hi)
  rw [hy] at h1
  exact of_decide_eq_true h1
theorem cp_pool2 (C : JC X l0 D0 (ttf cs) eE cc own nL (cd :: BIG) fr lo ce sl) {a ix : Nat} {sp dp z : Int32} (h : a ∈ pL σ ∧ pK σ a = 0) (hg : ¬ (sp < 0 ∨ dp < 0 ∨ z < 0 ∨ pC σ a < sp.toNatClampNeg + z.toNatClampNeg ∨ pC σ a < dp.toNatClampNeg + z.toNatClampNeg ∨ allIn σ a sp.toNatClampNeg z.toNatClampNeg 2 = false)) (e : σ' = sF σ a (va_cpy (pR σ a) (pR σ a) sp.toNatClampNeg dp.toNatClampNeg z.toNatClampNeg)) (w1 : Cond.methodLink own ix arraycopyName ∈ cd :: BIG) (w2 : Cond.native arraycopyName ∈ cd :: BIG) (w3 : Cond.static arraycopyName ∈ cd :: BIG) (w4 : Cond.initialized "java/lang/System" ∈ cd :: BIG) (h6 : 1 ≤ fr) (h7 : (rest.map fun v => v.category).sum + (nativeFrameWords "java/lang/System" "arraycopy" 5 + 11) ≤ lo) (hd : decode cc pc = .ok (.invokestatic ix, 3)) (kk : J (wfm ad cs) X nL k n σ' (pc + 3) loc (rest)) : J (wfm ad cs) X nL k n σ pc loc (.int z :: .int dp :: .ref a :: .int sp :: .ref a :: rest) := by
  subst e
  have hall : allIn σ a sp.toNatClampNeg z.toNatClampNeg 2 = true := by
    cases hb : allIn σ a sp.toNatClampNeg z.toNatClampNeg 2 with
    | true => rfl
    | false => exact absurd (Or.inr (Or.inr (Or.inr (Or.inr (Or.inr hb))))) hg
  exact j_copyq (Cn := "TollLedger$Offer") (T := T_OF) (N := 6) (ci := 7) C 5 (wrp0 h) rfl (fun i hi y hy => ⟨_, rdp2 (allIn_at hall i hi y hy)⟩) rfl (by decide +kernel) w1 w2 w3 w4 (fun x => hg (Or.inl x)) (fun x => hg (Or.inr (Or.inl x))) (fun x => hg (Or.inr (Or.inr (Or.inl x)))) (Nat.not_lt.mp (fun x => hg (Or.inr (Or.inr (Or.inr (Or.inl x)))))) (Nat.not_lt.mp (fun x => hg (Or.inr (Or.inr (Or.inr (Or.inr (Or.inl x))))))) h6 h7 hd kk
theorem cp_pool3 (C : JC X l0 D0 (ttf cs) eE cc own nL (cd :: BIG) fr lo ce sl) {a ix : Nat} {sp dp z : Int32} (h : a ∈ pL σ ∧ pK σ a = 0) (hg : ¬ (sp < 0 ∨ dp < 0 ∨ z < 0 ∨ pC σ a < sp.toNatClampNeg + z.toNatClampNeg ∨ pC σ a < dp.toNatClampNeg + z.toNatClampNeg ∨ allIn σ a sp.toNatClampNeg z.toNatClampNeg 3 = false)) (e : σ' = sF σ a (va_cpy (pR σ a) (pR σ a) sp.toNatClampNeg dp.toNatClampNeg z.toNatClampNeg)) (w1 : Cond.methodLink own ix arraycopyName ∈ cd :: BIG) (w2 : Cond.native arraycopyName ∈ cd :: BIG) (w3 : Cond.static arraycopyName ∈ cd :: BIG) (w4 : Cond.initialized "java/lang/System" ∈ cd :: BIG) (h6 : 1 ≤ fr) (h7 : (rest.map fun v => v.category).sum + (nativeFrameWords "java/lang/System" "arraycopy" 5 + 11) ≤ lo) (hd : decode cc pc = .ok (.invokestatic ix, 3)) (kk : J (wfm ad cs) X nL k n σ' (pc + 3) loc (rest)) : J (wfm ad cs) X nL k n σ pc loc (.int z :: .int dp :: .ref a :: .int sp :: .ref a :: rest) := by
  subst e
  have hall : allIn σ a sp.toNatClampNeg z.toNatClampNeg 3 = true := by
    cases hb : allIn σ a sp.toNatClampNeg z.toNatClampNeg 3 with
    | true => rfl
    | false => exact absurd (Or.inr (Or.inr (Or.inr (Or.inr (Or.inr hb))))) hg
  exact j_copyq (Cn := "TollLedger$Deposit") (T := T_DP) (N := 6) (ci := 8) C 5 (wrp0 h) rfl (fun i hi y hy => ⟨_, rdp3 (allIn_at hall i hi y hy)⟩) rfl (by decide +kernel) w1 w2 w3 w4 (fun x => hg (Or.inl x)) (fun x => hg (Or.inr (Or.inl x))) (fun x => hg (Or.inr (Or.inr (Or.inl x)))) (Nat.not_lt.mp (fun x => hg (Or.inr (Or.inr (Or.inr (Or.inl x)))))) (Nat.not_lt.mp (fun x => hg (Or.inr (Or.inr (Or.inr (Or.inr (Or.inl x))))))) h6 h7 hd kk
theorem cp_fun_pur (C : JC X l0 D0 (ttf cs) eE cc own nL (cd :: BIG) fr lo ce sl) {ix : Nat} (e : σ' = sW σ 6 (va_cpy (gA σ 5) (gA σ 6) (0 : Int32).toNatClampNeg (0 : Int32).toNatClampNeg (6 : Int32).toNatClampNeg)) (w1 : Cond.methodLink own ix arraycopyName ∈ cd :: BIG) (w2 : Cond.native arraycopyName ∈ cd :: BIG) (w3 : Cond.static arraycopyName ∈ cd :: BIG) (w4 : Cond.initialized "java/lang/System" ∈ cd :: BIG) (h6 : 1 ≤ fr) (h7 : (rest.map fun v => v.category).sum + (nativeFrameWords "java/lang/System" "arraycopy" 5 + 11) ≤ lo) (hd : decode cc pc = .ok (.invokestatic ix, 3)) (kk : J (wfm ad cs) X nL k n σ' (pc + 3) loc (rest)) : J (wfm ad cs) X nL k n σ pc loc (.int 6 :: .int 0 :: .ref (ad 16) :: .int 0 :: .ref (ad 15) :: rest) := by
  subst e
  exact j_copyi (σ' := sW σ 6 (va_cpy (gA σ 5) (gA σ 6) (0 : Int32).toNatClampNeg (0 : Int32).toNatClampNeg (6 : Int32).toNatClampNeg)) (n0 := 6) (n1 := 6) (f := gA σ 5) (g := gA σ 6) (c0 := cs 0) (c1 := cs 0) C 0 0 ⟨15, rfl⟩ (fun _ _ => ⟨16, rfl, rfl⟩) rfl rfl w1 w2 w3 w4 (by decide) (by decide) (by decide) (by decide) (by decide) h6 h7 hd kk
end STROWS
