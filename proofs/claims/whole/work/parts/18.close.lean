set_option maxRecDepth 100000 in
set_option maxHeartbeats 4000000 in
/-- the claim's walk out of the steps' obligations -/
theorem whole_of {Inv : Nat × Nat → Nat → ST → Prop} (hok : ∀ eE : Nat × Nat, AllOk eE (Inv eE)) (hmono : ∀ (eE : Nat × Nat) (c : Nat) (σ : ST), Inv eE c σ → Inv eE (c + 1) σ) (h0 : ∀ (eE : Nat × Nat) (a0 a1 a2 a3 a4 a5 : Nat), [a0, a1, a2, a3, a4, a5].Nodup → Inv eE 0 (st0 a0 a1 a2 a3 a4 a5 eE.1)) {p : Program} {e : Env} {s : State} {m : MethodId} {below : List Frame} {meth : Method} {c : Code} (l : Launch) {b L : Nat} {xs : Nat → Int32} (hL : L ≤ 3072) (C0 : lw_At p s m meth c b L xs) : W p l e room_1 s m #[Value.ref b] below meth c s.heap [] 0 0 (lw_Z below #[Value.ref b] s) (entryFrame m ([Value.ref b] : List Value).toArray 4) := by
  obtain ⟨hx, hb, hr, hml, hown, hts, hX, hbl, hlk, hgv⟩ := C0
  obtain ⟨D, cs, hK⟩ := law_K hts
  obtain ⟨eE, hZ⟩ := law_SZ hts hgv
  have hSP := law_SP hts
  have C : JC (p, l, e, room_1, s, m, #[Value.ref b], below, meth, c, lw_Z below #[Value.ref b] s, D, fun q => s.heap.size ≤ q, ttf cs) l D (ttf cs) eE b_LW_law "TollLedgerLaw" 4 ((Cond.code y_TL_by b_TL_by 3 r_TL_by) :: BIG) 11 428 600000 7302250 := ⟨rfl, rfl, rfl, hx, hb, hml, hown, fun w h => hts w (bgT (by
    rcases List.mem_cons.mp h with rfl | h
    · exact wc_TL_by
    · exact h)), hK, fun q h => h, rfl, rfl, rfl, rfl, hSP, hZ⟩
  have hSX : SX (p, l, e, room_1, s, m, #[Value.ref b], below, meth, c, lw_Z below #[Value.ref b] s, D, fun q => s.heap.size ≤ q, ttf cs) b L xs := ⟨hX, hbl, Nat.not_le.mpr hbl⟩
  have hret : ∀ (ad : Nat → Nat) (k n : Nat) (σ : ST) (pc : Nat) (loc : List (Nat × Value)), k ≤ 600000 → n ≤ 7302250 → decode code pc = .ok (.ireturn, 1) → J (wfm ad cs) (p, l, e, room_1, s, m, #[Value.ref b], below, meth, c, lw_Z below #[Value.ref b] s, D, fun q => s.heap.size ≤ q, ttf cs) 4 k n σ pc loc [.int 1] := by
    intro ad k n σ pc loc hk hn hd H locs ls hl hP hD hS
    refine va_forget (fun q hq => hS.2.2 q hq) ?_
    refine W.widen hk hn ?_
    exact lw_ret hx hb hr hlk hd
  have hJ := law_open (b := b) C (fun ad a0 a1 a2 a3 a4 a5 hnd => law_loop C hSX hL (hret ad) (hok eE) (hmono eE) 513 0 100 1000 _ (by omega) (by omega) (h0 eE a0 a1 a2 a3 a4 a5 hnd) (by omega) (by omega))
  rw [lg_entry_eq]
  exact hJ s.heap [] _ (lv_entry [Value.ref b] (n := 4) (Nat.le_of_ble_eq_true rfl)) (fun k q hk => by simp at hk) ⟨fun i j p q hp => by simp at hp, fun k q hk => by simp at hk⟩ va_S.rf
