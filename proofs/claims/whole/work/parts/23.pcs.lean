section PCS
variable {eE : Nat × Nat} {μ ν σ τ : ST} {K L : Nat}
def cnt (p : Nat → Bool) : Nat → Nat → Nat
  | _, 0 => 0
  | s, m + 1 => (if p s then 1 else 0) + cnt p (s + 1) m
theorem cnt_le (p : Nat → Bool) : ∀ m s, cnt p s m ≤ m
  | 0, _ => Nat.le_refl _
  | m + 1, s => by
    have := cnt_le p m (s + 1)
    unfold cnt
    split <;> omega
theorem cnt_congr {p q : Nat → Bool} : ∀ m s, (∀ i, s ≤ i → i < s + m → p i = q i) → cnt p s m = cnt q s m
  | 0, _, _ => rfl
  | m + 1, s, h => by
    unfold cnt
    rw [h s (Nat.le_refl _) (by omega), cnt_congr m (s + 1) (fun i h1 h2 => h i (by omega) (by omega))]
theorem ai (x : Int32) (a b : Nat) : x + nI a + nI b = x + nI (a + b) := by rw [Int32.add_assoc, nI_add]
theorem ai0 (x : Int32) : x + nI 0 = x := Int32.add_zero x
theorem ai1 (x : Int32) : x + 1 = x + nI 1 := rfl
def own (τ : ST) (i : Nat) : Bool := decide (0 < gA τ 13 i ∨ 0 < gA τ 12 i)
theorem isP_eq (l b : Int32) : (if 0 < l then some (1 : Int32) else if b ≤ 0 then some 0 else some 1) = some (if decide (0 < l ∨ 0 < b) = true then 1 else 0) := by
  by_cases h1 : 0 < l
  · rw [if_pos h1, if_pos (decide_eq_true (Or.inl h1))]
  · rw [if_neg h1]
    by_cases h2 : b ≤ 0
    · rw [if_pos h2, if_neg (fun h => (of_decide_eq_true h).elim h1 (Int32.not_lt.mpr h2))]
    · rw [if_neg h2, if_pos (decide_eq_true (Or.inr (Int32.not_le.mp h2)))]
theorem LN_isPiece_eq (hC : Core eE μ ν σ τ) {i : Nat} (hi : i < 72) : LN_isPiece (nI i) σ = some (if own τ i = true then 1 else 0) := by
  unfold LN_isPiece own
  simp only [nI_clamp (lt31 hi), if_neg (gin hi), (hC.2.2.1 i hi).1, (hC.2.2.1 i hi).2.1]
  exact isP_eq _ _
theorem MD_owns_eq {i : Nat} (hi : i < 72) : MD_owns (nI i) τ = some (if own τ i = true then 1 else 0) := by
  unfold MD_owns own
  simp only [nI_clamp (lt31 hi), if_neg (gin hi)]
  exact isP_eq _ _
theorem LN_piecesOf_L (hC : Core eE μ ν σ τ) {a : Nat} (ha : a < 6) : ∀ (m N k : Nat) (x : Int32), k + m = 12 → m < N → LN_piecesOf_L12 N (nI (12 * a)) x (nI (12 * a + k)) σ = some (x + nI (cnt (own τ) (12 * a + k) m))
  | 0, N + 1, k, x, hk, _ => by
    have e : nI (12 * a) + 12 ≤ nI (12 * a + k) := by
      rw [show (12 : Int32) = nI 12 by decide, nI_add]
      exact nI_le (by omega) (by omega)
    show LN_piecesOf_b12 _ _ _ _ _ = _
    unfold LN_piecesOf_b12 cnt
    rw [if_pos e, ai0]
  | m + 1, N + 1, k, x, hk, hN => by
    have e : ¬ nI (12 * a) + 12 ≤ nI (12 * a + k) := by
      rw [show (12 : Int32) = nI 12 by decide, nI_add]
      exact nI_ge (by omega) (by omega)
    show LN_piecesOf_b12 _ _ _ _ _ = _
    unfold LN_piecesOf_b12
    rw [if_neg e, LN_isPiece_eq hC (by omega), show cnt (own τ) (12 * a + k) (m + 1) = (if own τ (12 * a + k) = true then 1 else 0) + cnt (own τ) (12 * a + k + 1) m from rfl]
    simp only [bd1, nI_1]
    have ih := fun y => LN_piecesOf_L hC ha m N (k + 1) y (by omega) (by omega)
    by_cases h : own τ (12 * a + k) = true
    · simp only [if_pos h, i10, if_false]
      rw [show 12 * a + k + 1 = 12 * a + (k + 1) by omega, ih, ai1, ai]
    · simp only [if_neg h, i00, if_true]
      rw [show 12 * a + k + 1 = 12 * a + (k + 1) by omega, ih, Nat.zero_add]
theorem MD_pieces_La {a : Nat} (ha : a < 6) : ∀ (m N k : Nat) (x : Int32), k + m = 12 → m < N → MD_pieces_L4 N (nI a) x (nI k) τ = MD_pieces_L39 FU (nI a) (x + nI (cnt (own τ) (12 * a + k) m)) 0 τ
  | 0, N + 1, k, x, hk, _ => by
    have e : (12 : Int32) ≤ nI k := by
      rw [show (12 : Int32) = nI 12 by decide]
      exact nI_le (by omega) (by omega)
    show MD_pieces_b4 _ _ _ _ _ = _
    unfold MD_pieces_b4 cnt
    rw [if_pos e, ai0]
  | m + 1, N + 1, k, x, hk, hN => by
    have e : ¬ (12 : Int32) ≤ nI k := by
      rw [show (12 : Int32) = nI 12 by decide]
      exact nI_ge (by omega) (by omega)
    have e2 : (12 : Int32) * nI a + nI k = nI (12 * a + k) := by
      rw [show (12 : Int32) = nI 12 by decide, pk_mul, nI_add]
    show MD_pieces_b4 _ _ _ _ _ = _
    unfold MD_pieces_b4
    rw [if_neg e, e2, MD_owns_eq (by omega), show cnt (own τ) (12 * a + k) (m + 1) = (if own τ (12 * a + k) = true then 1 else 0) + cnt (own τ) (12 * a + k + 1) m from rfl]
    unfold MD_pieces_c29
    simp only [bd1, nmI, nI_1]
    have ih := fun y => MD_pieces_La ha m N (k + 1) y (by omega) (by omega)
    by_cases h : own τ (12 * a + k) = true
    · simp only [if_pos h, i10, if_false]
      rw [show 12 * a + k + 1 = 12 * a + (k + 1) by omega, ih, ai1, ai]
    · simp only [if_neg h, i00, if_true]
      rw [show 12 * a + k + 1 = 12 * a + (k + 1) by omega, ih, Nat.zero_add, Int32.add_zero]
/-! the lists -/
theorem off_rd (hC : Core eE μ ν σ τ) (hG : Good K L τ) {j : Nat} (hj : j < nO τ) : AL_get_OL (nI j) σ = some (oq σ j) := by
  obtain ⟨hL, hf, _⟩ := hC.2.2.2.1
  obtain ⟨g1, g2, _⟩ := hG.2.2.2.2.1
  rcases hL with ⟨_, h0⟩ | ⟨p1, p2, p3, _⟩
  · omega
  have e18 : gI σ 18 = nI (nO τ) := (hC.1.2.2.2.2.2.2.2.2.2.1).trans g1
  unfold AL_get_OL OB_checkIndex PC_checkIndex AL_elementData_OL
  have hj' : j < 2 ^ 31 := by omega
  simp only [e18, bd1, if_neg (nI_pos hj'), if_pos (nI_lt hj (by omega)), gd_ok (show gE σ 0 ∈ pL σ ∧ pK σ (gE σ 0) = 0 from ⟨p1, p2⟩), nI_clamp hj', if_neg (show ¬ (nI j < 0 ∨ pC σ (gE σ 0) ≤ j) from fun z => z.elim (nI_pos hj') (by omega)), (hf j hj).1]
theorem dep_rd (hC : Core eE μ ν σ τ) (hG : Good K L τ) {j : Nat} (hj : j < nD τ) : AL_get_DL (nI j) σ = some (dq σ j) := by
  obtain ⟨hL, hf, _⟩ := hC.2.2.2.2.1
  obtain ⟨g1, g2, _⟩ := hG.2.2.2.2.2
  rcases hL with ⟨_, h0⟩ | ⟨p1, p2, p3, _⟩
  · omega
  have e18 : gI σ 20 = nI (nD τ) := (hC.1.2.2.2.2.2.2.2.2.2.2).trans g1
  unfold AL_get_DL OB_checkIndex PC_checkIndex AL_elementData_DL
  have hj' : j < 2 ^ 31 := by omega
  simp only [e18, bd1, if_neg (nI_pos hj'), if_pos (nI_lt hj (by omega)), gd_ok (show gE σ 1 ∈ pL σ ∧ pK σ (gE σ 1) = 0 from ⟨p1, p2⟩), nI_clamp hj', if_neg (show ¬ (nI j < 0 ∨ pC σ (gE σ 1) ≤ j) from fun z => z.elim (nI_pos hj') (by omega)), (hf j hj).1]
theorem szO (hC : Core eE μ ν σ τ) (hG : Good K L τ) : AL_size_OL σ = some (nI (nO τ)) := by
  unfold AL_size_OL
  rw [hC.1.2.2.2.2.2.2.2.2.2.1, hG.2.2.2.2.1.1]
theorem szD (hC : Core eE μ ν σ τ) (hG : Good K L τ) : AL_size_DL σ = some (nI (nD τ)) := by
  unfold AL_size_DL
  rw [hC.1.2.2.2.2.2.2.2.2.2.2, hG.2.2.2.2.2.1]
def ofO (τ : ST) (a : Nat) (j : Nat) : Bool := decide (gA τ 16 j = nI a)
def ofD (τ : ST) (a : Nat) (j : Nat) : Bool := decide (gA τ 22 j = nI a)
theorem ST_piecesOf_Lo (hC : Core eE μ ν σ τ) (hG : Good K L τ) {a : Nat} : ∀ (m N k : Nat) (x : Int32), k + m = nO τ → m < N → ST_piecesOf_L11 N (nI a) x (nI k) σ = ST_piecesOf_L51 FU (nI a) (x + nI (cnt (ofO τ a) k m)) 0 σ
  | 0, N + 1, k, x, hk, _ => by
    have hn := hG.2.2.2.2.1.2.1
    show ST_piecesOf_b11 _ _ _ _ _ = _
    unfold ST_piecesOf_b11 cnt
    rw [szO hC hG]
    simp only [bd1, if_pos (nI_le (show nO τ ≤ k by omega) (by omega)), ai0]
  | m + 1, N + 1, k, x, hk, hN => by
    have hn := hG.2.2.2.2.1.2.1
    have hk' : k < nO τ := by omega
    obtain ⟨_, f1, _, f2, _⟩ := hC.2.2.2.1.2.1 k hk'
    show ST_piecesOf_b11 _ _ _ _ _ = _
    unfold ST_piecesOf_b11
    rw [szO hC hG, off_rd hC hG hk', show cnt (ofO τ a) k (m + 1) = (if ofO τ a k = true then 1 else 0) + cnt (ofO τ a) (k + 1) m from rfl]
    simp only [bd1, nI_1, if_neg (nI_ge hk' (by omega)), gd_ok f1, f2]
    have ih := fun y => ST_piecesOf_Lo hC hG (a := a) m N (k + 1) y (by omega) (by omega)
    by_cases h : gA τ 16 k = nI a
    · rw [if_pos h, ih, if_pos (show ofO τ a k = true from decide_eq_true h), ai1, ai]
    · rw [if_neg h, ih, if_neg (show ¬ ofO τ a k = true from fun z => h (of_decide_eq_true z)), Nat.zero_add]
theorem ST_piecesOf_Ld (hC : Core eE μ ν σ τ) (hG : Good K L τ) {a : Nat} : ∀ (m N k : Nat) (x : Int32), k + m = nD τ → m < N → ST_piecesOf_L51 N (nI a) x (nI k) σ = some (x + nI (cnt (ofD τ a) k m))
  | 0, N + 1, k, x, hk, _ => by
    have hn := hG.2.2.2.2.2.2.1
    show ST_piecesOf_b51 _ _ _ _ _ = _
    unfold ST_piecesOf_b51 cnt
    rw [szD hC hG]
    simp only [bd1, if_pos (nI_le (show nD τ ≤ k by omega) (by omega)), ai0]
  | m + 1, N + 1, k, x, hk, hN => by
    have hn := hG.2.2.2.2.2.2.1
    have hk' : k < nD τ := by omega
    obtain ⟨_, f1, _, f2, _⟩ := hC.2.2.2.2.1.2.1 k hk'
    show ST_piecesOf_b51 _ _ _ _ _ = _
    unfold ST_piecesOf_b51
    rw [szD hC hG, dep_rd hC hG hk', show cnt (ofD τ a) k (m + 1) = (if ofD τ a k = true then 1 else 0) + cnt (ofD τ a) (k + 1) m from rfl]
    simp only [bd1, nI_1, if_neg (nI_ge hk' (by omega)), gd_ok f1, f2]
    have ih := fun y => ST_piecesOf_Ld hC hG (a := a) m N (k + 1) y (by omega) (by omega)
    by_cases h : gA τ 22 k = nI a
    · rw [if_pos h, ih, if_pos (show ofD τ a k = true from decide_eq_true h), ai1, ai]
    · rw [if_neg h, ih, if_neg (show ¬ ofD τ a k = true from fun z => h (of_decide_eq_true z)), Nat.zero_add]
theorem MD_pieces_Lo (hG : Good K L τ) {a : Nat} : ∀ (m N k : Nat) (x : Int32), k + m = nO τ → m < N → MD_pieces_L39 N (nI a) x (nI k) τ = MD_pieces_L73 FU (nI a) (x + nI (cnt (ofO τ a) k m)) 0 τ
  | 0, N + 1, k, x, hk, _ => by
    obtain ⟨g1, hn, _⟩ := hG.2.2.2.2.1
    show MD_pieces_b39 _ _ _ _ _ = _
    unfold MD_pieces_b39 cnt
    rw [g1, if_pos (nI_le (show nO τ ≤ k by omega) (by omega)), ai0]
  | m + 1, N + 1, k, x, hk, hN => by
    obtain ⟨g1, hn, _⟩ := hG.2.2.2.2.1
    have hk' : k < nO τ := by omega
    show MD_pieces_b39 _ _ _ _ _ = _
    unfold MD_pieces_b39 MD_pieces_c63
    rw [g1, show cnt (ofO τ a) k (m + 1) = (if ofO τ a k = true then 1 else 0) + cnt (ofO τ a) (k + 1) m from rfl]
    simp only [nmI, nI_1, if_neg (nI_ge hk' (by omega)), nI_clamp (show k < 2 ^ 31 by omega), if_neg (gin (show k < 12 by omega))]
    have ih := fun y => MD_pieces_Lo hG (a := a) m N (k + 1) y (by omega) (by omega)
    by_cases h : gA τ 16 k = nI a
    · rw [if_pos h, ih, if_pos (show ofO τ a k = true from decide_eq_true h), ai1, ai]
    · rw [if_neg h, ih, if_neg (show ¬ ofO τ a k = true from fun z => h (of_decide_eq_true z)), Nat.zero_add, Int32.add_zero]
theorem MD_pieces_Ld (hG : Good K L τ) {a : Nat} : ∀ (m N k : Nat) (x : Int32), k + m = nD τ → m < N → MD_pieces_L73 N (nI a) x (nI k) τ = some (x + nI (cnt (ofD τ a) k m))
  | 0, N + 1, k, x, hk, _ => by
    obtain ⟨g1, hn, _⟩ := hG.2.2.2.2.2
    show MD_pieces_b73 _ _ _ _ _ = _
    unfold MD_pieces_b73 cnt
    rw [g1, if_pos (nI_le (show nD τ ≤ k by omega) (by omega)), ai0]
  | m + 1, N + 1, k, x, hk, hN => by
    obtain ⟨g1, hn, _⟩ := hG.2.2.2.2.2
    have hk' : k < nD τ := by omega
    show MD_pieces_b73 _ _ _ _ _ = _
    unfold MD_pieces_b73 MD_pieces_c97
    rw [g1, show cnt (ofD τ a) k (m + 1) = (if ofD τ a k = true then 1 else 0) + cnt (ofD τ a) (k + 1) m from rfl]
    simp only [nmI, nI_1, if_neg (nI_ge hk' (by omega)), nI_clamp (show k < 2 ^ 31 by omega), if_neg (gin (show k < 6 by omega))]
    have ih := fun y => MD_pieces_Ld hG (a := a) m N (k + 1) y (by omega) (by omega)
    by_cases h : gA τ 22 k = nI a
    · rw [if_pos h, ih, if_pos (show ofD τ a k = true from decide_eq_true h), ai1, ai]
    · rw [if_neg h, ih, if_neg (show ¬ ofD τ a k = true from fun z => h (of_decide_eq_true z)), Nat.zero_add, Int32.add_zero]
def pcs (τ : ST) (a : Nat) : Nat := cnt (own τ) (12 * a) 12 + cnt (ofO τ a) 0 (nO τ) + cnt (ofD τ a) 0 (nD τ)
theorem pcs_le (hG : Good K L τ) (a : Nat) : pcs τ a ≤ 30 := by
  have h1 := cnt_le (own τ) 12 (12 * a)
  have h2 := cnt_le (ofO τ a) (nO τ) 0
  have h3 := cnt_le (ofD τ a) (nD τ) 0
  have h4 := hG.2.2.2.2.1.2.1
  have h5 := hG.2.2.2.2.2.2.1
  unfold pcs
  omega
theorem FUv : FU = 1000 := rfl
theorem ST_piecesOf_eq (hC : Core eE μ ν σ τ) (hG : Good K L τ) {a : Nat} (ha : a < 6) : ST_piecesOf (nI a) σ = some (nI (pcs τ a)) := by
  have h4 := hG.2.2.2.2.1.2.1
  have h5 := hG.2.2.2.2.2.2.1
  have e : LN_side (nI a) 0 1 = some (nI (12 * a)) := LN_side_eq ha (b := 0) (c := 0) (by decide) (by decide)
  have r1 := LN_piecesOf_L hC ha 12 FU 0 0 (by omega) (by decide)
  have r2 := ST_piecesOf_Lo hC hG (a := a) (nO τ) FU 0 (0 + nI (cnt (own τ) (12 * a) 12)) (by omega) (by rw [FUv]; omega)
  have r3 := ST_piecesOf_Ld hC hG (a := a) (nD τ) FU 0 (0 + nI (cnt (own τ) (12 * a) 12) + nI (cnt (ofO τ a) 0 (nO τ))) (by omega) (by rw [FUv]; omega)
  unfold ST_piecesOf LN_piecesOf
  rw [e]
  simp only [bd1]
  rw [Nat.add_zero] at r1
  rw [r1]
  simp only [bd1]
  rw [show (0 : Int32) = nI 0 by decide] at r2 r3 ⊢
  rw [r2, ← show (0 : Int32) = nI 0 by decide]
  rw [← show (0 : Int32) = nI 0 by decide] at r3
  rw [show (0 : Int32) = nI 0 by decide] at r3 ⊢
  rw [r3, nI_add, nI_add, nI_add]
  congr 2
  unfold pcs
  omega
theorem MD_pieces_eq (hG : Good K L τ) {a : Nat} (ha : a < 6) : MD_pieces (nI a) τ = some (nI (pcs τ a)) := by
  have h4 := hG.2.2.2.2.1.2.1
  have h5 := hG.2.2.2.2.2.2.1
  have e0 : (0 : Int32) = nI 0 := by decide
  have r1 := MD_pieces_La (τ := τ) ha 12 FU 0 0 (by omega) (by decide)
  have r2 := MD_pieces_Lo hG (a := a) (nO τ) FU 0 (0 + nI (cnt (own τ) (12 * a) 12)) (by omega) (by rw [FUv]; omega)
  have r3 := MD_pieces_Ld hG (a := a) (nD τ) FU 0 (0 + nI (cnt (own τ) (12 * a) 12) + nI (cnt (ofO τ a) 0 (nO τ))) (by omega) (by rw [FUv]; omega)
  unfold MD_pieces
  rw [Nat.add_zero] at r1
  rw [e0] at r1 r2 r3 ⊢
  rw [r1, r2, r3, nI_add, nI_add, nI_add]
  congr 2
  unfold pcs
  omega
theorem res_eq {n : Nat} : (100 : Int32) + 20 * nI n = nI (100 + 20 * n) := by
  rw [show (100 : Int32) = nI 100 by decide, show (20 : Int32) = nI 20 by decide, pk_mul, nI_add]
theorem ST_reserveOf_eq (hC : Core eE μ ν σ τ) (hG : Good K L τ) {a : Nat} (ha : a < 6) : ST_reserveOf (nI a) σ = some (nI (100 + 20 * pcs τ a)) := by
  unfold ST_reserveOf
  rw [ST_piecesOf_eq hC hG ha]
  simp only [bd1, res_eq]
theorem MD_reserve_eq (hG : Good K L τ) {a : Nat} (ha : a < 6) : MD_reserve (nI a) τ = some (nI (100 + 20 * pcs τ a)) := by
  unfold MD_reserve
  rw [MD_pieces_eq hG ha]
  simp only [bd1, res_eq]
end PCS
