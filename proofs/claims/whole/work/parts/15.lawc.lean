section LAWB
variable {S : Type} {wf : S → va_W} {X : JX} {l0 : Launch} {D0 : va_G} {tt : List (ClassId × FieldType)} {eE : Nat × Nat} {cc : ByteArray} {own : String} {nL : Nat} {Ts : List Cond} {fr lo ce sl k n : Nat} {σ σ' : S} {pc : Nat} {loc : List (Nat × Value)} {rest : List Value}
/-- the script, that no cell of the world is -/
def SX (X : JX) (b L : Nat) (xs : Nat → Int32) : Prop := match X with
  | (_, _, _, _, s, _, _, _, _, _, _, _, A, _) => va_X b L xs s s.heap ∧ b < s.heap.size ∧ ¬ A b
theorem j_sld (C : JC X l0 D0 tt eE cc own nL Ts fr lo ce sl) {b L : Nat} {xs : Nat → Int32} (hX : SX X b L xs) {i : Int32} (m0 : Nat) (hm : m0 < L) (hL : L < 2 ^ 31) (hi : i = nI m0) (hd : decode cc pc = .ok (.iaload, 1)) (kk : J wf X nL k n σ (pc + 1) loc (.int (xs m0) :: rest)) : J wf X nL k n σ pc loc (.int i :: .ref b :: rest) := by
  obtain ⟨p, l, e, R, s, m, args, below, meth, c, Q, D, A, tys⟩ := X
  obtain ⟨rfl, rfl, rfl, hx, hb, hml, ho, hts, hK, hA, e1, e2, e3, e4, hsp, hsz⟩ := C
  intro H locs ls hl hP hD hS
  subst hi
  obtain ⟨h1, h2, h3⟩ := hX
  have e9 : (nI m0).toNatClampNeg = m0 := nI_clamp (by omega)
  refine va_sld hx hb h1 h2 h3 hS (nI_in hm hL) hd ?_
  rw [e9]
  exact kk H locs ls hl hP hD hS
theorem j_slen (C : JC X l0 D0 tt eE cc own nL Ts fr lo ce sl) {b L : Nat} {xs : Nat → Int32} (hX : SX X b L xs) (hd : decode cc pc = .ok (.arraylength, 1)) (kk : J wf X nL k n σ (pc + 1) loc (.int (nI L) :: rest)) : J wf X nL k n σ pc loc (.ref b :: rest) := by
  obtain ⟨p, l, e, R, s, m, args, below, meth, c, Q, D, A, tys⟩ := X
  obtain ⟨rfl, rfl, rfl, hx, hb, hml, ho, hts, hK, hA, e1, e2, e3, e4, hsp, hsz⟩ := C
  intro H locs ls hl hP hD hS
  obtain ⟨h1, h2, h3⟩ := hX
  exact va_slen hx hb h1 h2 h3 hS hd (kk H locs ls hl hP hD hS)
theorem nI_p2 (a : Nat) : nI a + 2 = nI (a + 2) := nI_add a 2
theorem nI_p3 (a : Nat) : nI a + 3 = nI (a + 3) := nI_add a 3
theorem nI_p4 (a : Nat) : nI a + 4 = nI (a + 4) := nI_add a 4
theorem nI_p5 (a : Nat) : nI a + 5 = nI (a + 5) := nI_add a 5
theorem nI_p6 (a : Nat) : nI a + 6 = nI (a + 6) := nI_add a 6
end LAWB
def ok_by (eE : Nat × Nat) (Inv : Nat → ST → Prop) : Prop := ∀ (c : Nat) (σ : ST) (x1 x2 : Int32), c < 512 → Inv c σ → ∃ (r : Int32) (σ1 : ST) (σ2 : ST), TL_by x1 x2 σ = some (r, σ1) ∧ MD_by x1 x2 σ1 = some (r, σ2) ∧ Inv (c + 1) σ2
def ok_send (eE : Nat × Nat) (Inv : Nat → ST → Prop) : Prop := ∀ (c : Nat) (σ : ST) (x1 x2 : Int32), c < 512 → Inv c σ → ∃ (r : Int32) (σ1 : ST) (σ2 : ST), TL_send x1 x2 σ = some (r, σ1) ∧ MD_send x1 x2 σ1 = some (r, σ2) ∧ Inv (c + 1) σ2
def ok_trust (eE : Nat × Nat) (Inv : Nat → ST → Prop) : Prop := ∀ (c : Nat) (σ : ST) (x1 x2 x3 x4 : Int32), (x4 = 0 ∨ x4 = 1) → c < 512 → Inv c σ → ∃ (r : Int32) (σ1 : ST) (σ2 : ST), TL_trust x1 x2 x3 x4 σ = some (r, σ1) ∧ MD_trust x1 x2 x3 x4 σ1 = some (r, σ2) ∧ Inv (c + 1) σ2
def ok_rate (eE : Nat × Nat) (Inv : Nat → ST → Prop) : Prop := ∀ (c : Nat) (σ : ST) (x1 : Int32), c < 512 → Inv c σ → ∃ (r : Int32) (σ1 : ST) (σ2 : ST), TL_rate x1 σ = some (r, σ1) ∧ MD_rate x1 σ1 = some (r, σ2) ∧ Inv (c + 1) σ2
def ok_spend (eE : Nat × Nat) (Inv : Nat → ST → Prop) : Prop := ∀ (c : Nat) (σ : ST) (x1 x2 x3 : Int32), (x3 = 0 ∨ x3 = 1) → c < 512 → Inv c σ → ∃ (r : Int32) (σ1 : ST) (σ2 : ST), TL_spend x1 x2 x3 σ = some (r, σ1) ∧ MD_spend x1 x2 x3 σ1 = some (r, σ2) ∧ Inv (c + 1) σ2
def ok_pay (eE : Nat × Nat) (Inv : Nat → ST → Prop) : Prop := ∀ (c : Nat) (σ : ST) (x1 x2 x3 : Int32), c < 512 → Inv c σ → ∃ (r : Int32) (σ1 : ST) (σ2 : ST), TL_pay x1 x2 x3 σ = some (r, σ1) ∧ MD_pay x1 x2 x3 σ1 = some (r, σ2) ∧ Inv (c + 1) σ2
def ok_offer (eE : Nat × Nat) (Inv : Nat → ST → Prop) : Prop := ∀ (c : Nat) (σ : ST) (x1 x2 x3 x4 x5 : Int32), c < 512 → Inv c σ → ∃ (res : Int32 × ST × Option (Int32 × Int32 × Int32 × Int32 × Int32)) (n : Nat), TL_offer x1 x2 x3 x4 x5 σ = some res ∧ (res.2.2 ≠ none → gI res.2.1 18 = nI n ∧ n ≤ 14 ∧ LOk 0 2 eE res.2.1 n) ∧ ∀ (v : Option Value) (σ1 : ST), POffer eE.1 n res v σ1 → ∃ (r : Int32) (σ2 : ST), v = some (.int r) ∧ MD_offer x1 x2 x3 x4 x5 σ1 = some (r, σ2) ∧ Inv (c + 1) σ2
def ok_cancel (eE : Nat × Nat) (Inv : Nat → ST → Prop) : Prop := ∀ (c : Nat) (σ : ST) (x1 : Int32), c < 512 → Inv c σ → ∃ (r : Int32) (σ1 : ST) (σ2 : ST), TL_cancel x1 σ = some (r, σ1) ∧ MD_cancel x1 σ1 = some (r, σ2) ∧ Inv (c + 1) σ2
def ok_deposit (eE : Nat × Nat) (Inv : Nat → ST → Prop) : Prop := ∀ (c : Nat) (σ : ST) (x1 x2 x3 x4 : Int32), c < 512 → Inv c σ → ∃ (res : Int32 × ST × Option (Int32 × Int32 × Int32 × Int32 × Int32)) (n : Nat), TL_deposit x1 x2 x3 x4 σ = some res ∧ (res.2.2 ≠ none → gI res.2.1 20 = nI n ∧ n ≤ 14 ∧ LOk 1 3 eE res.2.1 n) ∧ ∀ (v : Option Value) (σ1 : ST), PDeposit eE.1 n res v σ1 → ∃ (r : Int32) (σ2 : ST), v = some (.int r) ∧ MD_deposit x1 x2 x3 x4 σ1 = some (r, σ2) ∧ Inv (c + 1) σ2
def ok_settle (eE : Nat × Nat) (Inv : Nat → ST → Prop) : Prop := ∀ (c : Nat) (σ : ST) (x1 : Int32), c < 512 → Inv c σ → ∃ (r : Int32) (σ1 : ST) (σ2 : ST), TL_settle x1 σ = some (r, σ1) ∧ MD_settle x1 σ1 = some (r, σ2) ∧ Inv (c + 1) σ2
def ok_tick (eE : Nat × Nat) (Inv : Nat → ST → Prop) : Prop := ∀ (c : Nat) (σ : ST) (x1 : Int32), c < 512 → Inv c σ → ∃ (r : Int32) (σ1 : ST) (σ2 : ST), TL_tick x1 σ = some (r, σ1) ∧ MD_tick x1 σ1 = some (r, σ2) ∧ Inv (c + 1) σ2
def ok_account (eE : Nat × Nat) (Inv : Nat → ST → Prop) : Prop := ∀ (c : Nat) (σ : ST) (x1 x2 : Int32), c < 512 → Inv c σ → ∃ (r : Int32), TL_account x1 x2 σ = some r ∧ MD_account x1 x2 σ = some r ∧ Inv (c + 1) σ
def ok_balance (eE : Nat × Nat) (Inv : Nat → ST → Prop) : Prop := ∀ (c : Nat) (σ : ST) (x1 x2 x3 : Int32), c < 512 → Inv c σ → ∃ (r : Int32), TL_balance x1 x2 x3 σ = some r ∧ MD_balance x1 x2 x3 σ = some r ∧ Inv (c + 1) σ
def ok_limit (eE : Nat × Nat) (Inv : Nat → ST → Prop) : Prop := ∀ (c : Nat) (σ : ST) (x1 x2 x3 : Int32), c < 512 → Inv c σ → ∃ (r : Int32), TL_limit x1 x2 x3 σ = some r ∧ MD_limit x1 x2 x3 σ = some r ∧ Inv (c + 1) σ
def ok_funds (eE : Nat × Nat) (Inv : Nat → ST → Prop) : Prop := ∀ (c : Nat) (σ : ST) (x1 x2 : Int32), c < 512 → Inv c σ → ∃ (r : Int32), TL_funds x1 x2 σ = some r ∧ MD_funds x1 x2 σ = some r ∧ Inv (c + 1) σ
def ok_book (eE : Nat × Nat) (Inv : Nat → ST → Prop) : Prop := ∀ (c : Nat) (σ : ST) (x1 x2 x3 : Int32), c < 512 → Inv c σ → ∃ (r : Int32) (σ1 : ST) (σ2 : ST), TL_book x1 x2 x3 σ = some (r, σ1) ∧ MD_book x1 x2 x3 σ1 = some (r, σ2) ∧ Inv (c + 1) σ2
def ok_offerOf (eE : Nat × Nat) (Inv : Nat → ST → Prop) : Prop := ∀ (c : Nat) (σ : ST) (x1 x2 : Int32), c < 512 → Inv c σ → ∃ (r : Int32), TL_offerOf x1 x2 σ = some r ∧ MD_offerOf x1 x2 σ = some r ∧ Inv (c + 1) σ
def ok_depositOf (eE : Nat × Nat) (Inv : Nat → ST → Prop) : Prop := ∀ (c : Nat) (σ : ST) (x1 : Int32), c < 512 → Inv c σ → ∃ (r : Int32), TL_depositOf x1 σ = some r ∧ MD_depositOf x1 σ = some r ∧ Inv (c + 1) σ
def ok_burnt (eE : Nat × Nat) (Inv : Nat → ST → Prop) : Prop := ∀ (c : Nat) (σ : ST), c < 512 → Inv c σ → ∃ (r : Int32), TL_burnt σ = some r ∧ MD_burnt σ = some r ∧ Inv (c + 1) σ
def ok_root (eE : Nat × Nat) (Inv : Nat → ST → Prop) : Prop := ∀ (c : Nat) (σ : ST), c < 512 → Inv c σ → ∃ (r : Int32) (σ1 : ST) (σ2 : ST), TL_root σ = some (r, σ1) ∧ MD_root σ1 = some (r, σ2) ∧ Inv (c + 1) σ2
section LAW
variable {X : JX} {l : Launch} {D : va_G} {ad : Nat → Nat} {cs : Nat → ClassId} {eE : Nat × Nat} {cd : Cond} {b L c k n : Nat} {xs : Nat → Int32} {σ : ST} {Inv : Nat → ST → Prop}
set_option maxRecDepth 100000 in
set_option maxHeartbeats 4000000 in
theorem law_by (C : JC X l D (ttf cs) eE b_LW_law "TollLedgerLaw" 4 (cd :: BIG) 11 428 600000 7302250) (hX : SX X b L xs) (hL : L ≤ 3072) (hc : 6 * c + 6 ≤ L) (hk : k + 2 ≤ 600000) (hn : n + 21 ≤ 7302250) (hok : ok_by eE Inv) (hI : Inv c σ) (kk : ∀ σ2 : ST, Inv (c + 1) σ2 → J (wfm ad cs) X 4 (k + 2) (n + 21) σ2 850 [(0, .ref b), (1, .ref (ad 0)), (2, .ref (ad 18)), (3, .int (nI (6 * c)))] []) : J (wfm ad cs) X 4 k n σ 128 [(0, .ref b), (1, .ref (ad 0)), (2, .ref (ad 18)), (3, .int (nI (6 * c)))] [] := by
  obtain ⟨r, σ1, σ2, hf1, hf2, hI2⟩ := hok c σ (xs (6 * c + 1)) (xs (6 * c + 2)) (by omega) hI
  refine j_aload_n C 1 rfl rfl d_LW_law_128 ?_
  refine j_aload_n C 0 rfl rfl d_LW_law_129 ?_
  refine j_iload_n C 3 rfl rfl d_LW_law_130 ?_
  refine j_iconst C (v := 1) (by decide) d_LW_law_131 ?_
  refine j_iadd C d_LW_law_132 ?_
  refine j_sld C hX (6 * c + 1) (by omega) (by omega) (nI_1 _) d_LW_law_133 ?_
  refine j_aload_n C 0 rfl rfl d_LW_law_134 ?_
  refine j_iload_n C 3 rfl rfl d_LW_law_135 ?_
  refine j_iconst C (v := 2) (by decide) d_LW_law_136 ?_
  refine j_iadd C d_LW_law_137 ?_
  refine j_sld C hX (6 * c + 2) (by omega) (by omega) (nI_p2 _) d_LW_law_138 ?_
  refine j_callV (ci := 0) (Cn := "TollLedger") (T := T_TL) (N := 10) C [.int (xs (6 * c + 1)), .int (xs (6 * c + 2))] [] (m_TL_by _ _ _ _ _ (xs (6 * c + 1)) (xs (6 * c + 2)) σ hf1) (gdV wd_2_9 wd_2_10 wd_2_11 wd_1_1 wc_TL_by) hy_TL_by rfl ⟨0, rfl⟩ rfl rfl (by decide) (by decide) (by omega) (by omega) (Nat.le_of_ble_eq_true rfl) d_LW_law_139 (j_kI (r := r) (σ1 := σ1) ?_)
  refine j_aload_n C 2 rfl rfl d_LW_law_142 ?_
  refine j_aload_n C 0 rfl rfl d_LW_law_143 ?_
  refine j_iload_n C 3 rfl rfl d_LW_law_144 ?_
  refine j_iconst C (v := 1) (by decide) d_LW_law_145 ?_
  refine j_iadd C d_LW_law_146 ?_
  refine j_sld C hX (6 * c + 1) (by omega) (by omega) (nI_1 _) d_LW_law_147 ?_
  refine j_aload_n C 0 rfl rfl d_LW_law_148 ?_
  refine j_iload_n C 3 rfl rfl d_LW_law_149 ?_
  refine j_iconst C (v := 2) (by decide) d_LW_law_150 ?_
  refine j_iadd C d_LW_law_151 ?_
  refine j_sld C hX (6 * c + 2) (by omega) (by omega) (nI_p2 _) d_LW_law_152 ?_
  refine j_callV (ci := 10) (Cn := "TollLedgerModel") (T := T_MD) (N := 39) C [.int (xs (6 * c + 1)), .int (xs (6 * c + 2))] [.int r] (m_MD_by _ _ _ _ _ (xs (6 * c + 1)) (xs (6 * c + 2)) σ1 hf2) (gdV wd_4_138 wd_4_139 wd_4_140 wd_1_11 wc_MD_by) hy_MD_by rfl ⟨18, rfl⟩ rfl rfl (by decide) (by decide) (by omega) (by omega) (Nat.le_of_ble_eq_true rfl) d_LW_law_153 (j_kI (r := r) (σ1 := σ2) ?_)
  refine j_icmp_eq C d_LW_law_156 rfl (fun _ => ?_) (fun h => absurd rfl h)
  exact j_widen (by omega) (by omega) (kk σ2 hI2)
set_option maxRecDepth 100000 in
set_option maxHeartbeats 4000000 in
theorem law_send (C : JC X l D (ttf cs) eE b_LW_law "TollLedgerLaw" 4 (cd :: BIG) 11 428 600000 7302250) (hX : SX X b L xs) (hL : L ≤ 3072) (hc : 6 * c + 6 ≤ L) (hk : k + 2 ≤ 600000) (hn : n + 21 ≤ 7302250) (hok : ok_send eE Inv) (hI : Inv c σ) (kk : ∀ σ2 : ST, Inv (c + 1) σ2 → J (wfm ad cs) X 4 (k + 2) (n + 21) σ2 850 [(0, .ref b), (1, .ref (ad 0)), (2, .ref (ad 18)), (3, .int (nI (6 * c)))] []) : J (wfm ad cs) X 4 k n σ 161 [(0, .ref b), (1, .ref (ad 0)), (2, .ref (ad 18)), (3, .int (nI (6 * c)))] [] := by
  obtain ⟨r, σ1, σ2, hf1, hf2, hI2⟩ := hok c σ (xs (6 * c + 1)) (xs (6 * c + 2)) (by omega) hI
  refine j_aload_n C 1 rfl rfl d_LW_law_161 ?_
  refine j_aload_n C 0 rfl rfl d_LW_law_162 ?_
  refine j_iload_n C 3 rfl rfl d_LW_law_163 ?_
  refine j_iconst C (v := 1) (by decide) d_LW_law_164 ?_
  refine j_iadd C d_LW_law_165 ?_
  refine j_sld C hX (6 * c + 1) (by omega) (by omega) (nI_1 _) d_LW_law_166 ?_
  refine j_aload_n C 0 rfl rfl d_LW_law_167 ?_
  refine j_iload_n C 3 rfl rfl d_LW_law_168 ?_
  refine j_iconst C (v := 2) (by decide) d_LW_law_169 ?_
  refine j_iadd C d_LW_law_170 ?_
  refine j_sld C hX (6 * c + 2) (by omega) (by omega) (nI_p2 _) d_LW_law_171 ?_
  refine j_callV (ci := 0) (Cn := "TollLedger") (T := T_TL) (N := 10) C [.int (xs (6 * c + 1)), .int (xs (6 * c + 2))] [] (m_TL_send _ _ _ _ _ (xs (6 * c + 1)) (xs (6 * c + 2)) σ hf1) (gdV wd_2_19 wd_2_20 wd_2_21 wd_1_1 wc_TL_send) hy_TL_send rfl ⟨0, rfl⟩ rfl rfl (by decide) (by decide) (by omega) (by omega) (Nat.le_of_ble_eq_true rfl) d_LW_law_172 (j_kI (r := r) (σ1 := σ1) ?_)
  refine j_aload_n C 2 rfl rfl d_LW_law_175 ?_
  refine j_aload_n C 0 rfl rfl d_LW_law_176 ?_
  refine j_iload_n C 3 rfl rfl d_LW_law_177 ?_
  refine j_iconst C (v := 1) (by decide) d_LW_law_178 ?_
  refine j_iadd C d_LW_law_179 ?_
  refine j_sld C hX (6 * c + 1) (by omega) (by omega) (nI_1 _) d_LW_law_180 ?_
  refine j_aload_n C 0 rfl rfl d_LW_law_181 ?_
  refine j_iload_n C 3 rfl rfl d_LW_law_182 ?_
  refine j_iconst C (v := 2) (by decide) d_LW_law_183 ?_
  refine j_iadd C d_LW_law_184 ?_
  refine j_sld C hX (6 * c + 2) (by omega) (by omega) (nI_p2 _) d_LW_law_185 ?_
  refine j_callV (ci := 10) (Cn := "TollLedgerModel") (T := T_MD) (N := 39) C [.int (xs (6 * c + 1)), .int (xs (6 * c + 2))] [.int r] (m_MD_send _ _ _ _ _ (xs (6 * c + 1)) (xs (6 * c + 2)) σ1 hf2) (gdV wd_4_152 wd_4_153 wd_4_154 wd_1_11 wc_MD_send) hy_MD_send rfl ⟨18, rfl⟩ rfl rfl (by decide) (by decide) (by omega) (by omega) (Nat.le_of_ble_eq_true rfl) d_LW_law_186 (j_kI (r := r) (σ1 := σ2) ?_)
  refine j_icmp_eq C d_LW_law_189 rfl (fun _ => ?_) (fun h => absurd rfl h)
  exact j_widen (by omega) (by omega) (kk σ2 hI2)
set_option maxRecDepth 100000 in
set_option maxHeartbeats 4000000 in
theorem law_trust (C : JC X l D (ttf cs) eE b_LW_law "TollLedgerLaw" 4 (cd :: BIG) 11 428 600000 7302250) (hX : SX X b L xs) (hL : L ≤ 3072) (hc : 6 * c + 6 ≤ L) (hk : k + 2 ≤ 600000) (hn : n + 21 ≤ 7302250) (hok : ok_trust eE Inv) (hI : Inv c σ) (kk : ∀ σ2 : ST, Inv (c + 1) σ2 → J (wfm ad cs) X 4 (k + 2) (n + 21) σ2 850 [(0, .ref b), (1, .ref (ad 0)), (2, .ref (ad 18)), (3, .int (nI (6 * c)))] []) : J (wfm ad cs) X 4 k n σ 194 [(0, .ref b), (1, .ref (ad 0)), (2, .ref (ad 18)), (3, .int (nI (6 * c)))] [] := by
  obtain ⟨z, hz0, hz1, hz2⟩ : ∃ z : Int32, (z = 0 ∨ z = 1) ∧ (xs (6 * c + 4) = 0 → z = 0) ∧ (¬ xs (6 * c + 4) = 0 → z = 1) := by
    by_cases h : xs (6 * c + 4) = 0
    · exact ⟨0, Or.inl rfl, fun _ => rfl, fun g => absurd h g⟩
    · exact ⟨1, Or.inr rfl, fun g => absurd g h, fun _ => rfl⟩
  obtain ⟨r, σ1, σ2, hf1, hf2, hI2⟩ := hok c σ (xs (6 * c + 1)) (xs (6 * c + 2)) (xs (6 * c + 3)) z hz0 (by omega) hI
  refine j_aload_n C 1 rfl rfl d_LW_law_194 ?_
  refine j_aload_n C 0 rfl rfl d_LW_law_195 ?_
  refine j_iload_n C 3 rfl rfl d_LW_law_196 ?_
  refine j_iconst C (v := 1) (by decide) d_LW_law_197 ?_
  refine j_iadd C d_LW_law_198 ?_
  refine j_sld C hX (6 * c + 1) (by omega) (by omega) (nI_1 _) d_LW_law_199 ?_
  refine j_aload_n C 0 rfl rfl d_LW_law_200 ?_
  refine j_iload_n C 3 rfl rfl d_LW_law_201 ?_
  refine j_iconst C (v := 2) (by decide) d_LW_law_202 ?_
  refine j_iadd C d_LW_law_203 ?_
  refine j_sld C hX (6 * c + 2) (by omega) (by omega) (nI_p2 _) d_LW_law_204 ?_
  refine j_aload_n C 0 rfl rfl d_LW_law_205 ?_
  refine j_iload_n C 3 rfl rfl d_LW_law_206 ?_
  refine j_iconst C (v := 3) (by decide) d_LW_law_207 ?_
  refine j_iadd C d_LW_law_208 ?_
  refine j_sld C hX (6 * c + 3) (by omega) (by omega) (nI_p3 _) d_LW_law_209 ?_
  refine j_aload_n C 0 rfl rfl d_LW_law_210 ?_
  refine j_iload_n C 3 rfl rfl d_LW_law_211 ?_
  refine j_iconst C (v := 4) (by decide) d_LW_law_212 ?_
  refine j_iadd C d_LW_law_213 ?_
  refine j_sld C hX (6 * c + 4) (by omega) (by omega) (nI_p4 _) d_LW_law_214 ?_
  have kj : J (wfm ad cs) X 4 k n σ 223 [(0, .ref b), (1, .ref (ad 0)), (2, .ref (ad 18)), (3, .int (nI (6 * c)))] [.int z, .int (xs (6 * c + 3)), .int (xs (6 * c + 2)), .int (xs (6 * c + 1)), .ref (ad 0)] → J (wfm ad cs) X 4 k n σ 215 [(0, .ref b), (1, .ref (ad 0)), (2, .ref (ad 18)), (3, .int (nI (6 * c)))] [.int (xs (6 * c + 4)), .int (xs (6 * c + 3)), .int (xs (6 * c + 2)), .int (xs (6 * c + 1)), .ref (ad 0)] := by
    intro kj
    refine j_if_eq C d_LW_law_215 rfl (fun h => ?_) (fun h => ?_)
    · refine j_iconst C (v := 0) (by decide) d_LW_law_222 ?_
      exact j_topI (hz1 h) kj
    · refine j_iconst C (v := 1) (by decide) d_LW_law_218 ?_
      refine j_goto C d_LW_law_219 rfl ?_
      exact j_topI (hz2 h) kj
  refine kj ?_
  clear kj
  refine j_callV (ci := 0) (Cn := "TollLedger") (T := T_TL) (N := 10) C [.int (xs (6 * c + 1)), .int (xs (6 * c + 2)), .int (xs (6 * c + 3)), .int z] [] (m_TL_trust _ _ _ _ _ (xs (6 * c + 1)) (xs (6 * c + 2)) (xs (6 * c + 3)) z σ hf1) (gdV wd_2_93 wd_2_94 wd_2_95 wd_1_1 wc_TL_trust) hy_TL_trust rfl ⟨0, rfl⟩ rfl rfl (by decide) (by decide) (by omega) (by omega) (Nat.le_of_ble_eq_true rfl) d_LW_law_223 (j_kI (r := r) (σ1 := σ1) ?_)
  refine j_aload_n C 2 rfl rfl d_LW_law_226 ?_
  refine j_aload_n C 0 rfl rfl d_LW_law_227 ?_
  refine j_iload_n C 3 rfl rfl d_LW_law_228 ?_
  refine j_iconst C (v := 1) (by decide) d_LW_law_229 ?_
  refine j_iadd C d_LW_law_230 ?_
  refine j_sld C hX (6 * c + 1) (by omega) (by omega) (nI_1 _) d_LW_law_231 ?_
  refine j_aload_n C 0 rfl rfl d_LW_law_232 ?_
  refine j_iload_n C 3 rfl rfl d_LW_law_233 ?_
  refine j_iconst C (v := 2) (by decide) d_LW_law_234 ?_
  refine j_iadd C d_LW_law_235 ?_
  refine j_sld C hX (6 * c + 2) (by omega) (by omega) (nI_p2 _) d_LW_law_236 ?_
  refine j_aload_n C 0 rfl rfl d_LW_law_237 ?_
  refine j_iload_n C 3 rfl rfl d_LW_law_238 ?_
  refine j_iconst C (v := 3) (by decide) d_LW_law_239 ?_
  refine j_iadd C d_LW_law_240 ?_
  refine j_sld C hX (6 * c + 3) (by omega) (by omega) (nI_p3 _) d_LW_law_241 ?_
  refine j_aload_n C 0 rfl rfl d_LW_law_242 ?_
  refine j_iload_n C 3 rfl rfl d_LW_law_243 ?_
  refine j_iconst C (v := 4) (by decide) d_LW_law_244 ?_
  refine j_iadd C d_LW_law_245 ?_
  refine j_sld C hX (6 * c + 4) (by omega) (by omega) (nI_p4 _) d_LW_law_246 ?_
  have kj : J (wfm ad cs) X 4 k n σ1 255 [(0, .ref b), (1, .ref (ad 0)), (2, .ref (ad 18)), (3, .int (nI (6 * c)))] [.int z, .int (xs (6 * c + 3)), .int (xs (6 * c + 2)), .int (xs (6 * c + 1)), .ref (ad 18), .int r] → J (wfm ad cs) X 4 k n σ1 247 [(0, .ref b), (1, .ref (ad 0)), (2, .ref (ad 18)), (3, .int (nI (6 * c)))] [.int (xs (6 * c + 4)), .int (xs (6 * c + 3)), .int (xs (6 * c + 2)), .int (xs (6 * c + 1)), .ref (ad 18), .int r] := by
    intro kj
    refine j_if_eq C d_LW_law_247 rfl (fun h => ?_) (fun h => ?_)
    · refine j_iconst C (v := 0) (by decide) d_LW_law_254 ?_
      exact j_topI (hz1 h) kj
    · refine j_iconst C (v := 1) (by decide) d_LW_law_250 ?_
      refine j_goto C d_LW_law_251 rfl ?_
      exact j_topI (hz2 h) kj
  refine kj ?_
  clear kj
  refine j_callV (ci := 10) (Cn := "TollLedgerModel") (T := T_MD) (N := 39) C [.int (xs (6 * c + 1)), .int (xs (6 * c + 2)), .int (xs (6 * c + 3)), .int z] [.int r] (m_MD_trust _ _ _ _ _ (xs (6 * c + 1)) (xs (6 * c + 2)) (xs (6 * c + 3)) z σ1 hf2) (gdV wd_4_189 wd_4_190 wd_4_191 wd_1_11 wc_MD_trust) hy_MD_trust rfl ⟨18, rfl⟩ rfl rfl (by decide) (by decide) (by omega) (by omega) (Nat.le_of_ble_eq_true rfl) d_LW_law_255 (j_kI (r := r) (σ1 := σ2) ?_)
  refine j_icmp_eq C d_LW_law_258 rfl (fun _ => ?_) (fun h => absurd rfl h)
  exact j_widen (by omega) (by omega) (kk σ2 hI2)
set_option maxRecDepth 100000 in
set_option maxHeartbeats 4000000 in
theorem law_rate (C : JC X l D (ttf cs) eE b_LW_law "TollLedgerLaw" 4 (cd :: BIG) 11 428 600000 7302250) (hX : SX X b L xs) (hL : L ≤ 3072) (hc : 6 * c + 6 ≤ L) (hk : k + 2 ≤ 600000) (hn : n + 21 ≤ 7302250) (hok : ok_rate eE Inv) (hI : Inv c σ) (kk : ∀ σ2 : ST, Inv (c + 1) σ2 → J (wfm ad cs) X 4 (k + 2) (n + 21) σ2 850 [(0, .ref b), (1, .ref (ad 0)), (2, .ref (ad 18)), (3, .int (nI (6 * c)))] []) : J (wfm ad cs) X 4 k n σ 263 [(0, .ref b), (1, .ref (ad 0)), (2, .ref (ad 18)), (3, .int (nI (6 * c)))] [] := by
  obtain ⟨r, σ1, σ2, hf1, hf2, hI2⟩ := hok c σ (xs (6 * c + 1)) (by omega) hI
  refine j_aload_n C 1 rfl rfl d_LW_law_263 ?_
  refine j_aload_n C 0 rfl rfl d_LW_law_264 ?_
  refine j_iload_n C 3 rfl rfl d_LW_law_265 ?_
  refine j_iconst C (v := 1) (by decide) d_LW_law_266 ?_
  refine j_iadd C d_LW_law_267 ?_
  refine j_sld C hX (6 * c + 1) (by omega) (by omega) (nI_1 _) d_LW_law_268 ?_
  refine j_callV (ci := 0) (Cn := "TollLedger") (T := T_TL) (N := 10) C [.int (xs (6 * c + 1))] [] (m_TL_rate _ _ _ _ _ (xs (6 * c + 1)) σ hf1) (gdV wd_2_107 wd_2_108 wd_2_109 wd_1_1 wc_TL_rate) hy_TL_rate rfl ⟨0, rfl⟩ rfl rfl (by decide) (by decide) (by omega) (by omega) (Nat.le_of_ble_eq_true rfl) d_LW_law_269 (j_kI (r := r) (σ1 := σ1) ?_)
  refine j_aload_n C 2 rfl rfl d_LW_law_272 ?_
  refine j_aload_n C 0 rfl rfl d_LW_law_273 ?_
  refine j_iload_n C 3 rfl rfl d_LW_law_274 ?_
  refine j_iconst C (v := 1) (by decide) d_LW_law_275 ?_
  refine j_iadd C d_LW_law_276 ?_
  refine j_sld C hX (6 * c + 1) (by omega) (by omega) (nI_1 _) d_LW_law_277 ?_
  refine j_callV (ci := 10) (Cn := "TollLedgerModel") (T := T_MD) (N := 39) C [.int (xs (6 * c + 1))] [.int r] (m_MD_rate _ _ _ _ _ (xs (6 * c + 1)) σ1 hf2) (gdV wd_4_194 wd_4_195 wd_4_196 wd_1_11 wc_MD_rate) hy_MD_rate rfl ⟨18, rfl⟩ rfl rfl (by decide) (by decide) (by omega) (by omega) (Nat.le_of_ble_eq_true rfl) d_LW_law_278 (j_kI (r := r) (σ1 := σ2) ?_)
  refine j_icmp_eq C d_LW_law_281 rfl (fun _ => ?_) (fun h => absurd rfl h)
  exact j_widen (by omega) (by omega) (kk σ2 hI2)
set_option maxRecDepth 100000 in
set_option maxHeartbeats 4000000 in
theorem law_spend (C : JC X l D (ttf cs) eE b_LW_law "TollLedgerLaw" 4 (cd :: BIG) 11 428 600000 7302250) (hX : SX X b L xs) (hL : L ≤ 3072) (hc : 6 * c + 6 ≤ L) (hk : k + 2 ≤ 600000) (hn : n + 21 ≤ 7302250) (hok : ok_spend eE Inv) (hI : Inv c σ) (kk : ∀ σ2 : ST, Inv (c + 1) σ2 → J (wfm ad cs) X 4 (k + 2) (n + 21) σ2 850 [(0, .ref b), (1, .ref (ad 0)), (2, .ref (ad 18)), (3, .int (nI (6 * c)))] []) : J (wfm ad cs) X 4 k n σ 286 [(0, .ref b), (1, .ref (ad 0)), (2, .ref (ad 18)), (3, .int (nI (6 * c)))] [] := by
  obtain ⟨z, hz0, hz1, hz2⟩ : ∃ z : Int32, (z = 0 ∨ z = 1) ∧ (xs (6 * c + 3) = 0 → z = 0) ∧ (¬ xs (6 * c + 3) = 0 → z = 1) := by
    by_cases h : xs (6 * c + 3) = 0
    · exact ⟨0, Or.inl rfl, fun _ => rfl, fun g => absurd h g⟩
    · exact ⟨1, Or.inr rfl, fun g => absurd g h, fun _ => rfl⟩
  obtain ⟨r, σ1, σ2, hf1, hf2, hI2⟩ := hok c σ (xs (6 * c + 1)) (xs (6 * c + 2)) z hz0 (by omega) hI
  refine j_aload_n C 1 rfl rfl d_LW_law_286 ?_
  refine j_aload_n C 0 rfl rfl d_LW_law_287 ?_
  refine j_iload_n C 3 rfl rfl d_LW_law_288 ?_
  refine j_iconst C (v := 1) (by decide) d_LW_law_289 ?_
  refine j_iadd C d_LW_law_290 ?_
  refine j_sld C hX (6 * c + 1) (by omega) (by omega) (nI_1 _) d_LW_law_291 ?_
  refine j_aload_n C 0 rfl rfl d_LW_law_292 ?_
  refine j_iload_n C 3 rfl rfl d_LW_law_293 ?_
  refine j_iconst C (v := 2) (by decide) d_LW_law_294 ?_
  refine j_iadd C d_LW_law_295 ?_
  refine j_sld C hX (6 * c + 2) (by omega) (by omega) (nI_p2 _) d_LW_law_296 ?_
  refine j_aload_n C 0 rfl rfl d_LW_law_297 ?_
  refine j_iload_n C 3 rfl rfl d_LW_law_298 ?_
  refine j_iconst C (v := 3) (by decide) d_LW_law_299 ?_
  refine j_iadd C d_LW_law_300 ?_
  refine j_sld C hX (6 * c + 3) (by omega) (by omega) (nI_p3 _) d_LW_law_301 ?_
  have kj : J (wfm ad cs) X 4 k n σ 310 [(0, .ref b), (1, .ref (ad 0)), (2, .ref (ad 18)), (3, .int (nI (6 * c)))] [.int z, .int (xs (6 * c + 2)), .int (xs (6 * c + 1)), .ref (ad 0)] → J (wfm ad cs) X 4 k n σ 302 [(0, .ref b), (1, .ref (ad 0)), (2, .ref (ad 18)), (3, .int (nI (6 * c)))] [.int (xs (6 * c + 3)), .int (xs (6 * c + 2)), .int (xs (6 * c + 1)), .ref (ad 0)] := by
    intro kj
    refine j_if_eq C d_LW_law_302 rfl (fun h => ?_) (fun h => ?_)
    · refine j_iconst C (v := 0) (by decide) d_LW_law_309 ?_
      exact j_topI (hz1 h) kj
    · refine j_iconst C (v := 1) (by decide) d_LW_law_305 ?_
      refine j_goto C d_LW_law_306 rfl ?_
      exact j_topI (hz2 h) kj
  refine kj ?_
  clear kj
  refine j_callV (ci := 0) (Cn := "TollLedger") (T := T_TL) (N := 10) C [.int (xs (6 * c + 1)), .int (xs (6 * c + 2)), .int z] [] (m_TL_spend _ _ _ _ _ (xs (6 * c + 1)) (xs (6 * c + 2)) z σ hf1) (gdV wd_2_111 wd_2_112 wd_2_113 wd_1_1 wc_TL_spend) hy_TL_spend rfl ⟨0, rfl⟩ rfl rfl (by decide) (by decide) (by omega) (by omega) (Nat.le_of_ble_eq_true rfl) d_LW_law_310 (j_kI (r := r) (σ1 := σ1) ?_)
  refine j_aload_n C 2 rfl rfl d_LW_law_313 ?_
  refine j_aload_n C 0 rfl rfl d_LW_law_314 ?_
  refine j_iload_n C 3 rfl rfl d_LW_law_315 ?_
  refine j_iconst C (v := 1) (by decide) d_LW_law_316 ?_
  refine j_iadd C d_LW_law_317 ?_
  refine j_sld C hX (6 * c + 1) (by omega) (by omega) (nI_1 _) d_LW_law_318 ?_
  refine j_aload_n C 0 rfl rfl d_LW_law_319 ?_
  refine j_iload_n C 3 rfl rfl d_LW_law_320 ?_
  refine j_iconst C (v := 2) (by decide) d_LW_law_321 ?_
  refine j_iadd C d_LW_law_322 ?_
  refine j_sld C hX (6 * c + 2) (by omega) (by omega) (nI_p2 _) d_LW_law_323 ?_
  refine j_aload_n C 0 rfl rfl d_LW_law_324 ?_
  refine j_iload_n C 3 rfl rfl d_LW_law_325 ?_
  refine j_iconst C (v := 3) (by decide) d_LW_law_326 ?_
  refine j_iadd C d_LW_law_327 ?_
  refine j_sld C hX (6 * c + 3) (by omega) (by omega) (nI_p3 _) d_LW_law_328 ?_
  have kj : J (wfm ad cs) X 4 k n σ1 337 [(0, .ref b), (1, .ref (ad 0)), (2, .ref (ad 18)), (3, .int (nI (6 * c)))] [.int z, .int (xs (6 * c + 2)), .int (xs (6 * c + 1)), .ref (ad 18), .int r] → J (wfm ad cs) X 4 k n σ1 329 [(0, .ref b), (1, .ref (ad 0)), (2, .ref (ad 18)), (3, .int (nI (6 * c)))] [.int (xs (6 * c + 3)), .int (xs (6 * c + 2)), .int (xs (6 * c + 1)), .ref (ad 18), .int r] := by
    intro kj
    refine j_if_eq C d_LW_law_329 rfl (fun h => ?_) (fun h => ?_)
    · refine j_iconst C (v := 0) (by decide) d_LW_law_336 ?_
      exact j_topI (hz1 h) kj
    · refine j_iconst C (v := 1) (by decide) d_LW_law_332 ?_
      refine j_goto C d_LW_law_333 rfl ?_
      exact j_topI (hz2 h) kj
  refine kj ?_
  clear kj
  refine j_callV (ci := 10) (Cn := "TollLedgerModel") (T := T_MD) (N := 39) C [.int (xs (6 * c + 1)), .int (xs (6 * c + 2)), .int z] [.int r] (m_MD_spend _ _ _ _ _ (xs (6 * c + 1)) (xs (6 * c + 2)) z σ1 hf2) (gdV wd_4_145 wd_4_146 wd_4_147 wd_1_11 wc_MD_spend) hy_MD_spend rfl ⟨18, rfl⟩ rfl rfl (by decide) (by decide) (by omega) (by omega) (Nat.le_of_ble_eq_true rfl) d_LW_law_337 (j_kI (r := r) (σ1 := σ2) ?_)
  refine j_icmp_eq C d_LW_law_340 rfl (fun _ => ?_) (fun h => absurd rfl h)
  exact j_widen (by omega) (by omega) (kk σ2 hI2)
set_option maxRecDepth 100000 in
set_option maxHeartbeats 4000000 in
theorem law_pay (C : JC X l D (ttf cs) eE b_LW_law "TollLedgerLaw" 4 (cd :: BIG) 11 428 600000 7302250) (hX : SX X b L xs) (hL : L ≤ 3072) (hc : 6 * c + 6 ≤ L) (hk : k + 2 ≤ 600000) (hn : n + 21 ≤ 7302250) (hok : ok_pay eE Inv) (hI : Inv c σ) (kk : ∀ σ2 : ST, Inv (c + 1) σ2 → J (wfm ad cs) X 4 (k + 2) (n + 21) σ2 850 [(0, .ref b), (1, .ref (ad 0)), (2, .ref (ad 18)), (3, .int (nI (6 * c)))] []) : J (wfm ad cs) X 4 k n σ 345 [(0, .ref b), (1, .ref (ad 0)), (2, .ref (ad 18)), (3, .int (nI (6 * c)))] [] := by
  obtain ⟨r, σ1, σ2, hf1, hf2, hI2⟩ := hok c σ (xs (6 * c + 1)) (xs (6 * c + 2)) (xs (6 * c + 3)) (by omega) hI
  refine j_aload_n C 1 rfl rfl d_LW_law_345 ?_
  refine j_aload_n C 0 rfl rfl d_LW_law_346 ?_
  refine j_iload_n C 3 rfl rfl d_LW_law_347 ?_
  refine j_iconst C (v := 1) (by decide) d_LW_law_348 ?_
  refine j_iadd C d_LW_law_349 ?_
  refine j_sld C hX (6 * c + 1) (by omega) (by omega) (nI_1 _) d_LW_law_350 ?_
  refine j_aload_n C 0 rfl rfl d_LW_law_351 ?_
  refine j_iload_n C 3 rfl rfl d_LW_law_352 ?_
  refine j_iconst C (v := 2) (by decide) d_LW_law_353 ?_
  refine j_iadd C d_LW_law_354 ?_
  refine j_sld C hX (6 * c + 2) (by omega) (by omega) (nI_p2 _) d_LW_law_355 ?_
  refine j_aload_n C 0 rfl rfl d_LW_law_356 ?_
  refine j_iload_n C 3 rfl rfl d_LW_law_357 ?_
  refine j_iconst C (v := 3) (by decide) d_LW_law_358 ?_
  refine j_iadd C d_LW_law_359 ?_
  refine j_sld C hX (6 * c + 3) (by omega) (by omega) (nI_p3 _) d_LW_law_360 ?_
  refine j_callV (ci := 0) (Cn := "TollLedger") (T := T_TL) (N := 10) C [.int (xs (6 * c + 1)), .int (xs (6 * c + 2)), .int (xs (6 * c + 3))] [] (m_TL_pay _ _ _ _ _ (xs (6 * c + 1)) (xs (6 * c + 2)) (xs (6 * c + 3)) σ hf1) (gdV wd_2_118 wd_2_119 wd_2_120 wd_1_1 wc_TL_pay) hy_TL_pay rfl ⟨0, rfl⟩ rfl rfl (by decide) (by decide) (by omega) (by omega) (Nat.le_of_ble_eq_true rfl) d_LW_law_361 (j_kI (r := r) (σ1 := σ1) ?_)
  refine j_aload_n C 2 rfl rfl d_LW_law_364 ?_
  refine j_aload_n C 0 rfl rfl d_LW_law_365 ?_
  refine j_iload_n C 3 rfl rfl d_LW_law_366 ?_
  refine j_iconst C (v := 1) (by decide) d_LW_law_367 ?_
  refine j_iadd C d_LW_law_368 ?_
  refine j_sld C hX (6 * c + 1) (by omega) (by omega) (nI_1 _) d_LW_law_369 ?_
  refine j_aload_n C 0 rfl rfl d_LW_law_370 ?_
  refine j_iload_n C 3 rfl rfl d_LW_law_371 ?_
  refine j_iconst C (v := 2) (by decide) d_LW_law_372 ?_
  refine j_iadd C d_LW_law_373 ?_
  refine j_sld C hX (6 * c + 2) (by omega) (by omega) (nI_p2 _) d_LW_law_374 ?_
  refine j_aload_n C 0 rfl rfl d_LW_law_375 ?_
  refine j_iload_n C 3 rfl rfl d_LW_law_376 ?_
  refine j_iconst C (v := 3) (by decide) d_LW_law_377 ?_
  refine j_iadd C d_LW_law_378 ?_
  refine j_sld C hX (6 * c + 3) (by omega) (by omega) (nI_p3 _) d_LW_law_379 ?_
  refine j_callV (ci := 10) (Cn := "TollLedgerModel") (T := T_MD) (N := 39) C [.int (xs (6 * c + 1)), .int (xs (6 * c + 2)), .int (xs (6 * c + 3))] [.int r] (m_MD_pay _ _ _ _ _ (xs (6 * c + 1)) (xs (6 * c + 2)) (xs (6 * c + 3)) σ1 hf2) (gdV wd_4_198 wd_4_199 wd_4_200 wd_1_11 wc_MD_pay) hy_MD_pay rfl ⟨18, rfl⟩ rfl rfl (by decide) (by decide) (by omega) (by omega) (Nat.le_of_ble_eq_true rfl) d_LW_law_380 (j_kI (r := r) (σ1 := σ2) ?_)
  refine j_icmp_eq C d_LW_law_383 rfl (fun _ => ?_) (fun h => absurd rfl h)
  exact j_widen (by omega) (by omega) (kk σ2 hI2)
set_option maxRecDepth 100000 in
set_option maxHeartbeats 4000000 in
theorem law_offer (C : JC X l D (ttf cs) eE b_LW_law "TollLedgerLaw" 4 (cd :: BIG) 11 428 600000 7302250) (hX : SX X b L xs) (hL : L ≤ 3072) (hc : 6 * c + 6 ≤ L) (hk : k + 2 ≤ 600000) (hn : n + 21 ≤ 7302250) (hok : ok_offer eE Inv) (hI : Inv c σ) (kk : ∀ σ2 : ST, Inv (c + 1) σ2 → J (wfm ad cs) X 4 (k + 2) (n + 21) σ2 850 [(0, .ref b), (1, .ref (ad 0)), (2, .ref (ad 18)), (3, .int (nI (6 * c)))] []) : J (wfm ad cs) X 4 k n σ 388 [(0, .ref b), (1, .ref (ad 0)), (2, .ref (ad 18)), (3, .int (nI (6 * c)))] [] := by
  obtain ⟨res, n0, hf1, hs, hf2⟩ := hok c σ (xs (6 * c + 1)) (xs (6 * c + 2)) (xs (6 * c + 3)) (xs (6 * c + 4)) (xs (6 * c + 5)) (by omega) hI
  refine j_aload_n C 1 rfl rfl d_LW_law_388 ?_
  refine j_aload_n C 0 rfl rfl d_LW_law_389 ?_
  refine j_iload_n C 3 rfl rfl d_LW_law_390 ?_
  refine j_iconst C (v := 1) (by decide) d_LW_law_391 ?_
  refine j_iadd C d_LW_law_392 ?_
  refine j_sld C hX (6 * c + 1) (by omega) (by omega) (nI_1 _) d_LW_law_393 ?_
  refine j_aload_n C 0 rfl rfl d_LW_law_394 ?_
  refine j_iload_n C 3 rfl rfl d_LW_law_395 ?_
  refine j_iconst C (v := 2) (by decide) d_LW_law_396 ?_
  refine j_iadd C d_LW_law_397 ?_
  refine j_sld C hX (6 * c + 2) (by omega) (by omega) (nI_p2 _) d_LW_law_398 ?_
  refine j_aload_n C 0 rfl rfl d_LW_law_399 ?_
  refine j_iload_n C 3 rfl rfl d_LW_law_400 ?_
  refine j_iconst C (v := 3) (by decide) d_LW_law_401 ?_
  refine j_iadd C d_LW_law_402 ?_
  refine j_sld C hX (6 * c + 3) (by omega) (by omega) (nI_p3 _) d_LW_law_403 ?_
  refine j_aload_n C 0 rfl rfl d_LW_law_404 ?_
  refine j_iload_n C 3 rfl rfl d_LW_law_405 ?_
  refine j_iconst C (v := 4) (by decide) d_LW_law_406 ?_
  refine j_iadd C d_LW_law_407 ?_
  refine j_sld C hX (6 * c + 4) (by omega) (by omega) (nI_p4 _) d_LW_law_408 ?_
  refine j_aload_n C 0 rfl rfl d_LW_law_409 ?_
  refine j_iload_n C 3 rfl rfl d_LW_law_410 ?_
  refine j_iconst C (v := 5) (by decide) d_LW_law_411 ?_
  refine j_iadd C d_LW_law_412 ?_
  refine j_sld C hX (6 * c + 5) (by omega) (by omega) (nI_p5 _) d_LW_law_413 ?_
  refine j_callV (ci := 0) (Cn := "TollLedger") (T := T_TL) (N := 10) C [.int (xs (6 * c + 1)), .int (xs (6 * c + 2)), .int (xs (6 * c + 3)), .int (xs (6 * c + 4)), .int (xs (6 * c + 5))] [] (m_TL_offer _ _ _ _ _ (xs (6 * c + 1)) (xs (6 * c + 2)) (xs (6 * c + 3)) (xs (6 * c + 4)) (xs (6 * c + 5)) n0 σ hf1 hs) (gdV wd_2_215 wd_2_216 wd_2_217 wd_1_1 wc_TL_offer) hy_TL_offer rfl ⟨0, rfl⟩ rfl rfl (by decide) (by decide) (by omega) (by omega) (Nat.le_of_ble_eq_true rfl) d_LW_law_414 (fun v σ1 hv => ?_)
  obtain ⟨r, σ2, rfl, hf3, hI2⟩ := hf2 v σ1 hv
  show J (wfm ad cs) X 4 (k + 2) (n + 21) σ1 _ [(0, .ref b), (1, .ref (ad 0)), (2, .ref (ad 18)), (3, .int (nI (6 * c)))] (.int r :: [])
  refine j_aload_n C 2 rfl rfl d_LW_law_417 ?_
  refine j_aload_n C 0 rfl rfl d_LW_law_418 ?_
  refine j_iload_n C 3 rfl rfl d_LW_law_419 ?_
  refine j_iconst C (v := 1) (by decide) d_LW_law_420 ?_
  refine j_iadd C d_LW_law_421 ?_
  refine j_sld C hX (6 * c + 1) (by omega) (by omega) (nI_1 _) d_LW_law_422 ?_
  refine j_aload_n C 0 rfl rfl d_LW_law_423 ?_
  refine j_iload_n C 3 rfl rfl d_LW_law_424 ?_
  refine j_iconst C (v := 2) (by decide) d_LW_law_425 ?_
  refine j_iadd C d_LW_law_426 ?_
  refine j_sld C hX (6 * c + 2) (by omega) (by omega) (nI_p2 _) d_LW_law_427 ?_
  refine j_aload_n C 0 rfl rfl d_LW_law_428 ?_
  refine j_iload_n C 3 rfl rfl d_LW_law_429 ?_
  refine j_iconst C (v := 3) (by decide) d_LW_law_430 ?_
  refine j_iadd C d_LW_law_431 ?_
  refine j_sld C hX (6 * c + 3) (by omega) (by omega) (nI_p3 _) d_LW_law_432 ?_
  refine j_aload_n C 0 rfl rfl d_LW_law_433 ?_
  refine j_iload_n C 3 rfl rfl d_LW_law_434 ?_
  refine j_iconst C (v := 4) (by decide) d_LW_law_435 ?_
  refine j_iadd C d_LW_law_436 ?_
  refine j_sld C hX (6 * c + 4) (by omega) (by omega) (nI_p4 _) d_LW_law_437 ?_
  refine j_aload_n C 0 rfl rfl d_LW_law_438 ?_
  refine j_iload_n C 3 rfl rfl d_LW_law_439 ?_
  refine j_iconst C (v := 5) (by decide) d_LW_law_440 ?_
  refine j_iadd C d_LW_law_441 ?_
  refine j_sld C hX (6 * c + 5) (by omega) (by omega) (nI_p5 _) d_LW_law_442 ?_
  refine j_callV (ci := 10) (Cn := "TollLedgerModel") (T := T_MD) (N := 39) C [.int (xs (6 * c + 1)), .int (xs (6 * c + 2)), .int (xs (6 * c + 3)), .int (xs (6 * c + 4)), .int (xs (6 * c + 5))] [.int r] (m_MD_offer _ _ _ _ _ (xs (6 * c + 1)) (xs (6 * c + 2)) (xs (6 * c + 3)) (xs (6 * c + 4)) (xs (6 * c + 5)) σ1 hf3) (gdV wd_5_13 wd_5_14 wd_5_15 wd_1_11 wc_MD_offer) hy_MD_offer rfl ⟨18, rfl⟩ rfl rfl (by decide) (by decide) (by omega) (by omega) (Nat.le_of_ble_eq_true rfl) d_LW_law_443 (j_kI (r := r) (σ1 := σ2) ?_)
  refine j_icmp_eq C d_LW_law_446 rfl (fun _ => ?_) (fun h => absurd rfl h)
  exact kk σ2 hI2
set_option maxRecDepth 100000 in
set_option maxHeartbeats 4000000 in
theorem law_cancel (C : JC X l D (ttf cs) eE b_LW_law "TollLedgerLaw" 4 (cd :: BIG) 11 428 600000 7302250) (hX : SX X b L xs) (hL : L ≤ 3072) (hc : 6 * c + 6 ≤ L) (hk : k + 2 ≤ 600000) (hn : n + 21 ≤ 7302250) (hok : ok_cancel eE Inv) (hI : Inv c σ) (kk : ∀ σ2 : ST, Inv (c + 1) σ2 → J (wfm ad cs) X 4 (k + 2) (n + 21) σ2 850 [(0, .ref b), (1, .ref (ad 0)), (2, .ref (ad 18)), (3, .int (nI (6 * c)))] []) : J (wfm ad cs) X 4 k n σ 451 [(0, .ref b), (1, .ref (ad 0)), (2, .ref (ad 18)), (3, .int (nI (6 * c)))] [] := by
  obtain ⟨r, σ1, σ2, hf1, hf2, hI2⟩ := hok c σ (xs (6 * c + 1)) (by omega) hI
  refine j_aload_n C 1 rfl rfl d_LW_law_451 ?_
  refine j_aload_n C 0 rfl rfl d_LW_law_452 ?_
  refine j_iload_n C 3 rfl rfl d_LW_law_453 ?_
  refine j_iconst C (v := 1) (by decide) d_LW_law_454 ?_
  refine j_iadd C d_LW_law_455 ?_
  refine j_sld C hX (6 * c + 1) (by omega) (by omega) (nI_1 _) d_LW_law_456 ?_
  refine j_callV (ci := 0) (Cn := "TollLedger") (T := T_TL) (N := 10) C [.int (xs (6 * c + 1))] [] (m_TL_cancel _ _ _ _ _ (xs (6 * c + 1)) σ hf1) (gdV wd_3_98 wd_3_99 wd_3_100 wd_1_1 wc_TL_cancel) hy_TL_cancel rfl ⟨0, rfl⟩ rfl rfl (by decide) (by decide) (by omega) (by omega) (Nat.le_of_ble_eq_true rfl) d_LW_law_457 (j_kI (r := r) (σ1 := σ1) ?_)
  refine j_aload_n C 2 rfl rfl d_LW_law_460 ?_
  refine j_aload_n C 0 rfl rfl d_LW_law_461 ?_
  refine j_iload_n C 3 rfl rfl d_LW_law_462 ?_
  refine j_iconst C (v := 1) (by decide) d_LW_law_463 ?_
  refine j_iadd C d_LW_law_464 ?_
  refine j_sld C hX (6 * c + 1) (by omega) (by omega) (nI_1 _) d_LW_law_465 ?_
  refine j_callV (ci := 10) (Cn := "TollLedgerModel") (T := T_MD) (N := 39) C [.int (xs (6 * c + 1))] [.int r] (m_MD_cancel _ _ _ _ _ (xs (6 * c + 1)) σ1 hf2) (gdV wd_5_21 wd_5_22 wd_5_23 wd_1_11 wc_MD_cancel) hy_MD_cancel rfl ⟨18, rfl⟩ rfl rfl (by decide) (by decide) (by omega) (by omega) (Nat.le_of_ble_eq_true rfl) d_LW_law_466 (j_kI (r := r) (σ1 := σ2) ?_)
  refine j_icmp_eq C d_LW_law_469 rfl (fun _ => ?_) (fun h => absurd rfl h)
  exact j_widen (by omega) (by omega) (kk σ2 hI2)
set_option maxRecDepth 100000 in
set_option maxHeartbeats 4000000 in
theorem law_deposit (C : JC X l D (ttf cs) eE b_LW_law "TollLedgerLaw" 4 (cd :: BIG) 11 428 600000 7302250) (hX : SX X b L xs) (hL : L ≤ 3072) (hc : 6 * c + 6 ≤ L) (hk : k + 2 ≤ 600000) (hn : n + 21 ≤ 7302250) (hok : ok_deposit eE Inv) (hI : Inv c σ) (kk : ∀ σ2 : ST, Inv (c + 1) σ2 → J (wfm ad cs) X 4 (k + 2) (n + 21) σ2 850 [(0, .ref b), (1, .ref (ad 0)), (2, .ref (ad 18)), (3, .int (nI (6 * c)))] []) : J (wfm ad cs) X 4 k n σ 474 [(0, .ref b), (1, .ref (ad 0)), (2, .ref (ad 18)), (3, .int (nI (6 * c)))] [] := by
  obtain ⟨res, n0, hf1, hs, hf2⟩ := hok c σ (xs (6 * c + 1)) (xs (6 * c + 2)) (xs (6 * c + 3)) (xs (6 * c + 4)) (by omega) hI
  refine j_aload_n C 1 rfl rfl d_LW_law_474 ?_
  refine j_aload_n C 0 rfl rfl d_LW_law_475 ?_
  refine j_iload_n C 3 rfl rfl d_LW_law_476 ?_
  refine j_iconst C (v := 1) (by decide) d_LW_law_477 ?_
  refine j_iadd C d_LW_law_478 ?_
  refine j_sld C hX (6 * c + 1) (by omega) (by omega) (nI_1 _) d_LW_law_479 ?_
  refine j_aload_n C 0 rfl rfl d_LW_law_480 ?_
  refine j_iload_n C 3 rfl rfl d_LW_law_481 ?_
  refine j_iconst C (v := 2) (by decide) d_LW_law_482 ?_
  refine j_iadd C d_LW_law_483 ?_
  refine j_sld C hX (6 * c + 2) (by omega) (by omega) (nI_p2 _) d_LW_law_484 ?_
  refine j_aload_n C 0 rfl rfl d_LW_law_485 ?_
  refine j_iload_n C 3 rfl rfl d_LW_law_486 ?_
  refine j_iconst C (v := 3) (by decide) d_LW_law_487 ?_
  refine j_iadd C d_LW_law_488 ?_
  refine j_sld C hX (6 * c + 3) (by omega) (by omega) (nI_p3 _) d_LW_law_489 ?_
  refine j_aload_n C 0 rfl rfl d_LW_law_490 ?_
  refine j_iload_n C 3 rfl rfl d_LW_law_491 ?_
  refine j_iconst C (v := 4) (by decide) d_LW_law_492 ?_
  refine j_iadd C d_LW_law_493 ?_
  refine j_sld C hX (6 * c + 4) (by omega) (by omega) (nI_p4 _) d_LW_law_494 ?_
  refine j_callV (ci := 0) (Cn := "TollLedger") (T := T_TL) (N := 10) C [.int (xs (6 * c + 1)), .int (xs (6 * c + 2)), .int (xs (6 * c + 3)), .int (xs (6 * c + 4))] [] (m_TL_deposit _ _ _ _ _ (xs (6 * c + 1)) (xs (6 * c + 2)) (xs (6 * c + 3)) (xs (6 * c + 4)) n0 σ hf1 hs) (gdV wd_3_109 wd_3_110 wd_3_111 wd_1_1 wc_TL_deposit) hy_TL_deposit rfl ⟨0, rfl⟩ rfl rfl (by decide) (by decide) (by omega) (by omega) (Nat.le_of_ble_eq_true rfl) d_LW_law_495 (fun v σ1 hv => ?_)
  obtain ⟨r, σ2, rfl, hf3, hI2⟩ := hf2 v σ1 hv
  show J (wfm ad cs) X 4 (k + 2) (n + 21) σ1 _ [(0, .ref b), (1, .ref (ad 0)), (2, .ref (ad 18)), (3, .int (nI (6 * c)))] (.int r :: [])
  refine j_aload_n C 2 rfl rfl d_LW_law_498 ?_
  refine j_aload_n C 0 rfl rfl d_LW_law_499 ?_
  refine j_iload_n C 3 rfl rfl d_LW_law_500 ?_
  refine j_iconst C (v := 1) (by decide) d_LW_law_501 ?_
  refine j_iadd C d_LW_law_502 ?_
  refine j_sld C hX (6 * c + 1) (by omega) (by omega) (nI_1 _) d_LW_law_503 ?_
  refine j_aload_n C 0 rfl rfl d_LW_law_504 ?_
  refine j_iload_n C 3 rfl rfl d_LW_law_505 ?_
  refine j_iconst C (v := 2) (by decide) d_LW_law_506 ?_
  refine j_iadd C d_LW_law_507 ?_
  refine j_sld C hX (6 * c + 2) (by omega) (by omega) (nI_p2 _) d_LW_law_508 ?_
  refine j_aload_n C 0 rfl rfl d_LW_law_509 ?_
  refine j_iload_n C 3 rfl rfl d_LW_law_510 ?_
  refine j_iconst C (v := 3) (by decide) d_LW_law_511 ?_
  refine j_iadd C d_LW_law_512 ?_
  refine j_sld C hX (6 * c + 3) (by omega) (by omega) (nI_p3 _) d_LW_law_513 ?_
  refine j_aload_n C 0 rfl rfl d_LW_law_514 ?_
  refine j_iload_n C 3 rfl rfl d_LW_law_515 ?_
  refine j_iconst C (v := 4) (by decide) d_LW_law_516 ?_
  refine j_iadd C d_LW_law_517 ?_
  refine j_sld C hX (6 * c + 4) (by omega) (by omega) (nI_p4 _) d_LW_law_518 ?_
  refine j_callV (ci := 10) (Cn := "TollLedgerModel") (T := T_MD) (N := 39) C [.int (xs (6 * c + 1)), .int (xs (6 * c + 2)), .int (xs (6 * c + 3)), .int (xs (6 * c + 4))] [.int r] (m_MD_deposit _ _ _ _ _ (xs (6 * c + 1)) (xs (6 * c + 2)) (xs (6 * c + 3)) (xs (6 * c + 4)) σ1 hf3) (gdV wd_5_29 wd_5_30 wd_5_31 wd_1_11 wc_MD_deposit) hy_MD_deposit rfl ⟨18, rfl⟩ rfl rfl (by decide) (by decide) (by omega) (by omega) (Nat.le_of_ble_eq_true rfl) d_LW_law_519 (j_kI (r := r) (σ1 := σ2) ?_)
  refine j_icmp_eq C d_LW_law_522 rfl (fun _ => ?_) (fun h => absurd rfl h)
  exact kk σ2 hI2
set_option maxRecDepth 100000 in
set_option maxHeartbeats 4000000 in
theorem law_settle (C : JC X l D (ttf cs) eE b_LW_law "TollLedgerLaw" 4 (cd :: BIG) 11 428 600000 7302250) (hX : SX X b L xs) (hL : L ≤ 3072) (hc : 6 * c + 6 ≤ L) (hk : k + 2 ≤ 600000) (hn : n + 21 ≤ 7302250) (hok : ok_settle eE Inv) (hI : Inv c σ) (kk : ∀ σ2 : ST, Inv (c + 1) σ2 → J (wfm ad cs) X 4 (k + 2) (n + 21) σ2 850 [(0, .ref b), (1, .ref (ad 0)), (2, .ref (ad 18)), (3, .int (nI (6 * c)))] []) : J (wfm ad cs) X 4 k n σ 527 [(0, .ref b), (1, .ref (ad 0)), (2, .ref (ad 18)), (3, .int (nI (6 * c)))] [] := by
  obtain ⟨r, σ1, σ2, hf1, hf2, hI2⟩ := hok c σ (xs (6 * c + 1)) (by omega) hI
  refine j_aload_n C 1 rfl rfl d_LW_law_527 ?_
  refine j_aload_n C 0 rfl rfl d_LW_law_528 ?_
  refine j_iload_n C 3 rfl rfl d_LW_law_529 ?_
  refine j_iconst C (v := 1) (by decide) d_LW_law_530 ?_
  refine j_iadd C d_LW_law_531 ?_
  refine j_sld C hX (6 * c + 1) (by omega) (by omega) (nI_1 _) d_LW_law_532 ?_
  refine j_callV (ci := 0) (Cn := "TollLedger") (T := T_TL) (N := 10) C [.int (xs (6 * c + 1))] [] (m_TL_settle _ _ _ _ _ (xs (6 * c + 1)) σ hf1) (gdV wd_3_152 wd_3_153 wd_3_154 wd_1_1 wc_TL_settle) hy_TL_settle rfl ⟨0, rfl⟩ rfl rfl (by decide) (by decide) (by omega) (by omega) (Nat.le_of_ble_eq_true rfl) d_LW_law_533 (j_kI (r := r) (σ1 := σ1) ?_)
  refine j_aload_n C 2 rfl rfl d_LW_law_536 ?_
  refine j_aload_n C 0 rfl rfl d_LW_law_537 ?_
  refine j_iload_n C 3 rfl rfl d_LW_law_538 ?_
  refine j_iconst C (v := 1) (by decide) d_LW_law_539 ?_
  refine j_iadd C d_LW_law_540 ?_
  refine j_sld C hX (6 * c + 1) (by omega) (by omega) (nI_1 _) d_LW_law_541 ?_
  refine j_callV (ci := 10) (Cn := "TollLedgerModel") (T := T_MD) (N := 39) C [.int (xs (6 * c + 1))] [.int r] (m_MD_settle _ _ _ _ _ (xs (6 * c + 1)) σ1 hf2) (gdV wd_5_33 wd_5_34 wd_5_35 wd_1_11 wc_MD_settle) hy_MD_settle rfl ⟨18, rfl⟩ rfl rfl (by decide) (by decide) (by omega) (by omega) (Nat.le_of_ble_eq_true rfl) d_LW_law_542 (j_kI (r := r) (σ1 := σ2) ?_)
  refine j_icmp_eq C d_LW_law_545 rfl (fun _ => ?_) (fun h => absurd rfl h)
  exact j_widen (by omega) (by omega) (kk σ2 hI2)
set_option maxRecDepth 100000 in
set_option maxHeartbeats 4000000 in
theorem law_tick (C : JC X l D (ttf cs) eE b_LW_law "TollLedgerLaw" 4 (cd :: BIG) 11 428 600000 7302250) (hX : SX X b L xs) (hL : L ≤ 3072) (hc : 6 * c + 6 ≤ L) (hk : k + 2 ≤ 600000) (hn : n + 21 ≤ 7302250) (hok : ok_tick eE Inv) (hI : Inv c σ) (kk : ∀ σ2 : ST, Inv (c + 1) σ2 → J (wfm ad cs) X 4 (k + 2) (n + 21) σ2 850 [(0, .ref b), (1, .ref (ad 0)), (2, .ref (ad 18)), (3, .int (nI (6 * c)))] []) : J (wfm ad cs) X 4 k n σ 550 [(0, .ref b), (1, .ref (ad 0)), (2, .ref (ad 18)), (3, .int (nI (6 * c)))] [] := by
  obtain ⟨r, σ1, σ2, hf1, hf2, hI2⟩ := hok c σ (xs (6 * c + 1)) (by omega) hI
  refine j_aload_n C 1 rfl rfl d_LW_law_550 ?_
  refine j_aload_n C 0 rfl rfl d_LW_law_551 ?_
  refine j_iload_n C 3 rfl rfl d_LW_law_552 ?_
  refine j_iconst C (v := 1) (by decide) d_LW_law_553 ?_
  refine j_iadd C d_LW_law_554 ?_
  refine j_sld C hX (6 * c + 1) (by omega) (by omega) (nI_1 _) d_LW_law_555 ?_
  refine j_callV (ci := 0) (Cn := "TollLedger") (T := T_TL) (N := 10) C [.int (xs (6 * c + 1))] [] (m_TL_tick _ _ _ _ _ (xs (6 * c + 1)) σ hf1) (gdV wd_3_161 wd_3_162 wd_3_163 wd_1_1 wc_TL_tick) hy_TL_tick rfl ⟨0, rfl⟩ rfl rfl (by decide) (by decide) (by omega) (by omega) (Nat.le_of_ble_eq_true rfl) d_LW_law_556 (j_kI (r := r) (σ1 := σ1) ?_)
  refine j_aload_n C 2 rfl rfl d_LW_law_559 ?_
  refine j_aload_n C 0 rfl rfl d_LW_law_560 ?_
  refine j_iload_n C 3 rfl rfl d_LW_law_561 ?_
  refine j_iconst C (v := 1) (by decide) d_LW_law_562 ?_
  refine j_iadd C d_LW_law_563 ?_
  refine j_sld C hX (6 * c + 1) (by omega) (by omega) (nI_1 _) d_LW_law_564 ?_
  refine j_callV (ci := 10) (Cn := "TollLedgerModel") (T := T_MD) (N := 39) C [.int (xs (6 * c + 1))] [.int r] (m_MD_tick _ _ _ _ _ (xs (6 * c + 1)) σ1 hf2) (gdV wd_5_41 wd_5_42 wd_5_43 wd_1_11 wc_MD_tick) hy_MD_tick rfl ⟨18, rfl⟩ rfl rfl (by decide) (by decide) (by omega) (by omega) (Nat.le_of_ble_eq_true rfl) d_LW_law_565 (j_kI (r := r) (σ1 := σ2) ?_)
  refine j_icmp_eq C d_LW_law_568 rfl (fun _ => ?_) (fun h => absurd rfl h)
  exact j_widen (by omega) (by omega) (kk σ2 hI2)
set_option maxRecDepth 100000 in
set_option maxHeartbeats 4000000 in
theorem law_account (C : JC X l D (ttf cs) eE b_LW_law "TollLedgerLaw" 4 (cd :: BIG) 11 428 600000 7302250) (hX : SX X b L xs) (hL : L ≤ 3072) (hc : 6 * c + 6 ≤ L) (hk : k + 2 ≤ 600000) (hn : n + 21 ≤ 7302250) (hok : ok_account eE Inv) (hI : Inv c σ) (kk : ∀ σ2 : ST, Inv (c + 1) σ2 → J (wfm ad cs) X 4 (k + 2) (n + 21) σ2 850 [(0, .ref b), (1, .ref (ad 0)), (2, .ref (ad 18)), (3, .int (nI (6 * c)))] []) : J (wfm ad cs) X 4 k n σ 573 [(0, .ref b), (1, .ref (ad 0)), (2, .ref (ad 18)), (3, .int (nI (6 * c)))] [] := by
  obtain ⟨r, hf1, hf2, hI2⟩ := hok c σ (xs (6 * c + 1)) (xs (6 * c + 2)) (by omega) hI
  refine j_aload_n C 1 rfl rfl d_LW_law_573 ?_
  refine j_aload_n C 0 rfl rfl d_LW_law_574 ?_
  refine j_iload_n C 3 rfl rfl d_LW_law_575 ?_
  refine j_iconst C (v := 1) (by decide) d_LW_law_576 ?_
  refine j_iadd C d_LW_law_577 ?_
  refine j_sld C hX (6 * c + 1) (by omega) (by omega) (nI_1 _) d_LW_law_578 ?_
  refine j_aload_n C 0 rfl rfl d_LW_law_579 ?_
  refine j_iload_n C 3 rfl rfl d_LW_law_580 ?_
  refine j_iconst C (v := 2) (by decide) d_LW_law_581 ?_
  refine j_iadd C d_LW_law_582 ?_
  refine j_sld C hX (6 * c + 2) (by omega) (by omega) (nI_p2 _) d_LW_law_583 ?_
  refine j_callV (ci := 0) (Cn := "TollLedger") (T := T_TL) (N := 10) C [.int (xs (6 * c + 1)), .int (xs (6 * c + 2))] [] (m_TL_account _ _ _ _ _ (xs (6 * c + 1)) (xs (6 * c + 2)) σ hf1) (gdV wd_3_165 wd_3_166 wd_3_167 wd_1_1 wc_TL_account) hy_TL_account rfl ⟨0, rfl⟩ rfl rfl (by decide) (by decide) (by omega) (by omega) (Nat.le_of_ble_eq_true rfl) d_LW_law_584 (j_kI (r := r) (σ1 := σ) ?_)
  refine j_aload_n C 2 rfl rfl d_LW_law_587 ?_
  refine j_aload_n C 0 rfl rfl d_LW_law_588 ?_
  refine j_iload_n C 3 rfl rfl d_LW_law_589 ?_
  refine j_iconst C (v := 1) (by decide) d_LW_law_590 ?_
  refine j_iadd C d_LW_law_591 ?_
  refine j_sld C hX (6 * c + 1) (by omega) (by omega) (nI_1 _) d_LW_law_592 ?_
  refine j_aload_n C 0 rfl rfl d_LW_law_593 ?_
  refine j_iload_n C 3 rfl rfl d_LW_law_594 ?_
  refine j_iconst C (v := 2) (by decide) d_LW_law_595 ?_
  refine j_iadd C d_LW_law_596 ?_
  refine j_sld C hX (6 * c + 2) (by omega) (by omega) (nI_p2 _) d_LW_law_597 ?_
  refine j_callV (ci := 10) (Cn := "TollLedgerModel") (T := T_MD) (N := 39) C [.int (xs (6 * c + 1)), .int (xs (6 * c + 2))] [.int r] (m_MD_account _ _ _ _ _ (xs (6 * c + 1)) (xs (6 * c + 2)) σ hf2) (gdV wd_5_45 wd_5_46 wd_5_47 wd_1_11 wc_MD_account) hy_MD_account rfl ⟨18, rfl⟩ rfl rfl (by decide) (by decide) (by omega) (by omega) (Nat.le_of_ble_eq_true rfl) d_LW_law_598 (j_kI (r := r) (σ1 := σ) ?_)
  refine j_icmp_eq C d_LW_law_601 rfl (fun _ => ?_) (fun h => absurd rfl h)
  exact j_widen (by omega) (by omega) (kk σ hI2)
set_option maxRecDepth 100000 in
set_option maxHeartbeats 4000000 in
theorem law_balance (C : JC X l D (ttf cs) eE b_LW_law "TollLedgerLaw" 4 (cd :: BIG) 11 428 600000 7302250) (hX : SX X b L xs) (hL : L ≤ 3072) (hc : 6 * c + 6 ≤ L) (hk : k + 2 ≤ 600000) (hn : n + 21 ≤ 7302250) (hok : ok_balance eE Inv) (hI : Inv c σ) (kk : ∀ σ2 : ST, Inv (c + 1) σ2 → J (wfm ad cs) X 4 (k + 2) (n + 21) σ2 850 [(0, .ref b), (1, .ref (ad 0)), (2, .ref (ad 18)), (3, .int (nI (6 * c)))] []) : J (wfm ad cs) X 4 k n σ 606 [(0, .ref b), (1, .ref (ad 0)), (2, .ref (ad 18)), (3, .int (nI (6 * c)))] [] := by
  obtain ⟨r, hf1, hf2, hI2⟩ := hok c σ (xs (6 * c + 1)) (xs (6 * c + 2)) (xs (6 * c + 3)) (by omega) hI
  refine j_aload_n C 1 rfl rfl d_LW_law_606 ?_
  refine j_aload_n C 0 rfl rfl d_LW_law_607 ?_
  refine j_iload_n C 3 rfl rfl d_LW_law_608 ?_
  refine j_iconst C (v := 1) (by decide) d_LW_law_609 ?_
  refine j_iadd C d_LW_law_610 ?_
  refine j_sld C hX (6 * c + 1) (by omega) (by omega) (nI_1 _) d_LW_law_611 ?_
  refine j_aload_n C 0 rfl rfl d_LW_law_612 ?_
  refine j_iload_n C 3 rfl rfl d_LW_law_613 ?_
  refine j_iconst C (v := 2) (by decide) d_LW_law_614 ?_
  refine j_iadd C d_LW_law_615 ?_
  refine j_sld C hX (6 * c + 2) (by omega) (by omega) (nI_p2 _) d_LW_law_616 ?_
  refine j_aload_n C 0 rfl rfl d_LW_law_617 ?_
  refine j_iload_n C 3 rfl rfl d_LW_law_618 ?_
  refine j_iconst C (v := 3) (by decide) d_LW_law_619 ?_
  refine j_iadd C d_LW_law_620 ?_
  refine j_sld C hX (6 * c + 3) (by omega) (by omega) (nI_p3 _) d_LW_law_621 ?_
  refine j_callV (ci := 0) (Cn := "TollLedger") (T := T_TL) (N := 10) C [.int (xs (6 * c + 1)), .int (xs (6 * c + 2)), .int (xs (6 * c + 3))] [] (m_TL_balance _ _ _ _ _ (xs (6 * c + 1)) (xs (6 * c + 2)) (xs (6 * c + 3)) σ hf1) (gdV wd_3_170 wd_3_171 wd_3_172 wd_1_1 wc_TL_balance) hy_TL_balance rfl ⟨0, rfl⟩ rfl rfl (by decide) (by decide) (by omega) (by omega) (Nat.le_of_ble_eq_true rfl) d_LW_law_622 (j_kI (r := r) (σ1 := σ) ?_)
  refine j_aload_n C 2 rfl rfl d_LW_law_625 ?_
  refine j_aload_n C 0 rfl rfl d_LW_law_626 ?_
  refine j_iload_n C 3 rfl rfl d_LW_law_627 ?_
  refine j_iconst C (v := 1) (by decide) d_LW_law_628 ?_
  refine j_iadd C d_LW_law_629 ?_
  refine j_sld C hX (6 * c + 1) (by omega) (by omega) (nI_1 _) d_LW_law_630 ?_
  refine j_aload_n C 0 rfl rfl d_LW_law_631 ?_
  refine j_iload_n C 3 rfl rfl d_LW_law_632 ?_
  refine j_iconst C (v := 2) (by decide) d_LW_law_633 ?_
  refine j_iadd C d_LW_law_634 ?_
  refine j_sld C hX (6 * c + 2) (by omega) (by omega) (nI_p2 _) d_LW_law_635 ?_
  refine j_aload_n C 0 rfl rfl d_LW_law_636 ?_
  refine j_iload_n C 3 rfl rfl d_LW_law_637 ?_
  refine j_iconst C (v := 3) (by decide) d_LW_law_638 ?_
  refine j_iadd C d_LW_law_639 ?_
  refine j_sld C hX (6 * c + 3) (by omega) (by omega) (nI_p3 _) d_LW_law_640 ?_
  refine j_callV (ci := 10) (Cn := "TollLedgerModel") (T := T_MD) (N := 39) C [.int (xs (6 * c + 1)), .int (xs (6 * c + 2)), .int (xs (6 * c + 3))] [.int r] (m_MD_balance _ _ _ _ _ (xs (6 * c + 1)) (xs (6 * c + 2)) (xs (6 * c + 3)) σ hf2) (gdV wd_5_49 wd_5_50 wd_5_51 wd_1_11 wc_MD_balance) hy_MD_balance rfl ⟨18, rfl⟩ rfl rfl (by decide) (by decide) (by omega) (by omega) (Nat.le_of_ble_eq_true rfl) d_LW_law_641 (j_kI (r := r) (σ1 := σ) ?_)
  refine j_icmp_eq C d_LW_law_644 rfl (fun _ => ?_) (fun h => absurd rfl h)
  exact j_widen (by omega) (by omega) (kk σ hI2)
set_option maxRecDepth 100000 in
set_option maxHeartbeats 4000000 in
theorem law_limit (C : JC X l D (ttf cs) eE b_LW_law "TollLedgerLaw" 4 (cd :: BIG) 11 428 600000 7302250) (hX : SX X b L xs) (hL : L ≤ 3072) (hc : 6 * c + 6 ≤ L) (hk : k + 2 ≤ 600000) (hn : n + 21 ≤ 7302250) (hok : ok_limit eE Inv) (hI : Inv c σ) (kk : ∀ σ2 : ST, Inv (c + 1) σ2 → J (wfm ad cs) X 4 (k + 2) (n + 21) σ2 850 [(0, .ref b), (1, .ref (ad 0)), (2, .ref (ad 18)), (3, .int (nI (6 * c)))] []) : J (wfm ad cs) X 4 k n σ 649 [(0, .ref b), (1, .ref (ad 0)), (2, .ref (ad 18)), (3, .int (nI (6 * c)))] [] := by
  obtain ⟨r, hf1, hf2, hI2⟩ := hok c σ (xs (6 * c + 1)) (xs (6 * c + 2)) (xs (6 * c + 3)) (by omega) hI
  refine j_aload_n C 1 rfl rfl d_LW_law_649 ?_
  refine j_aload_n C 0 rfl rfl d_LW_law_650 ?_
  refine j_iload_n C 3 rfl rfl d_LW_law_651 ?_
  refine j_iconst C (v := 1) (by decide) d_LW_law_652 ?_
  refine j_iadd C d_LW_law_653 ?_
  refine j_sld C hX (6 * c + 1) (by omega) (by omega) (nI_1 _) d_LW_law_654 ?_
  refine j_aload_n C 0 rfl rfl d_LW_law_655 ?_
  refine j_iload_n C 3 rfl rfl d_LW_law_656 ?_
  refine j_iconst C (v := 2) (by decide) d_LW_law_657 ?_
  refine j_iadd C d_LW_law_658 ?_
  refine j_sld C hX (6 * c + 2) (by omega) (by omega) (nI_p2 _) d_LW_law_659 ?_
  refine j_aload_n C 0 rfl rfl d_LW_law_660 ?_
  refine j_iload_n C 3 rfl rfl d_LW_law_661 ?_
  refine j_iconst C (v := 3) (by decide) d_LW_law_662 ?_
  refine j_iadd C d_LW_law_663 ?_
  refine j_sld C hX (6 * c + 3) (by omega) (by omega) (nI_p3 _) d_LW_law_664 ?_
  refine j_callV (ci := 0) (Cn := "TollLedger") (T := T_TL) (N := 10) C [.int (xs (6 * c + 1)), .int (xs (6 * c + 2)), .int (xs (6 * c + 3))] [] (m_TL_limit _ _ _ _ _ (xs (6 * c + 1)) (xs (6 * c + 2)) (xs (6 * c + 3)) σ hf1) (gdV wd_3_177 wd_3_178 wd_3_179 wd_1_1 wc_TL_limit) hy_TL_limit rfl ⟨0, rfl⟩ rfl rfl (by decide) (by decide) (by omega) (by omega) (Nat.le_of_ble_eq_true rfl) d_LW_law_665 (j_kI (r := r) (σ1 := σ) ?_)
  refine j_aload_n C 2 rfl rfl d_LW_law_668 ?_
  refine j_aload_n C 0 rfl rfl d_LW_law_669 ?_
  refine j_iload_n C 3 rfl rfl d_LW_law_670 ?_
  refine j_iconst C (v := 1) (by decide) d_LW_law_671 ?_
  refine j_iadd C d_LW_law_672 ?_
  refine j_sld C hX (6 * c + 1) (by omega) (by omega) (nI_1 _) d_LW_law_673 ?_
  refine j_aload_n C 0 rfl rfl d_LW_law_674 ?_
  refine j_iload_n C 3 rfl rfl d_LW_law_675 ?_
  refine j_iconst C (v := 2) (by decide) d_LW_law_676 ?_
  refine j_iadd C d_LW_law_677 ?_
  refine j_sld C hX (6 * c + 2) (by omega) (by omega) (nI_p2 _) d_LW_law_678 ?_
  refine j_aload_n C 0 rfl rfl d_LW_law_679 ?_
  refine j_iload_n C 3 rfl rfl d_LW_law_680 ?_
  refine j_iconst C (v := 3) (by decide) d_LW_law_681 ?_
  refine j_iadd C d_LW_law_682 ?_
  refine j_sld C hX (6 * c + 3) (by omega) (by omega) (nI_p3 _) d_LW_law_683 ?_
  refine j_callV (ci := 10) (Cn := "TollLedgerModel") (T := T_MD) (N := 39) C [.int (xs (6 * c + 1)), .int (xs (6 * c + 2)), .int (xs (6 * c + 3))] [.int r] (m_MD_limit _ _ _ _ _ (xs (6 * c + 1)) (xs (6 * c + 2)) (xs (6 * c + 3)) σ hf2) (gdV wd_5_56 wd_5_57 wd_5_58 wd_1_11 wc_MD_limit) hy_MD_limit rfl ⟨18, rfl⟩ rfl rfl (by decide) (by decide) (by omega) (by omega) (Nat.le_of_ble_eq_true rfl) d_LW_law_684 (j_kI (r := r) (σ1 := σ) ?_)
  refine j_icmp_eq C d_LW_law_687 rfl (fun _ => ?_) (fun h => absurd rfl h)
  exact j_widen (by omega) (by omega) (kk σ hI2)
set_option maxRecDepth 100000 in
set_option maxHeartbeats 4000000 in
theorem law_funds (C : JC X l D (ttf cs) eE b_LW_law "TollLedgerLaw" 4 (cd :: BIG) 11 428 600000 7302250) (hX : SX X b L xs) (hL : L ≤ 3072) (hc : 6 * c + 6 ≤ L) (hk : k + 2 ≤ 600000) (hn : n + 21 ≤ 7302250) (hok : ok_funds eE Inv) (hI : Inv c σ) (kk : ∀ σ2 : ST, Inv (c + 1) σ2 → J (wfm ad cs) X 4 (k + 2) (n + 21) σ2 850 [(0, .ref b), (1, .ref (ad 0)), (2, .ref (ad 18)), (3, .int (nI (6 * c)))] []) : J (wfm ad cs) X 4 k n σ 692 [(0, .ref b), (1, .ref (ad 0)), (2, .ref (ad 18)), (3, .int (nI (6 * c)))] [] := by
  obtain ⟨r, hf1, hf2, hI2⟩ := hok c σ (xs (6 * c + 1)) (xs (6 * c + 2)) (by omega) hI
  refine j_aload_n C 1 rfl rfl d_LW_law_692 ?_
  refine j_aload_n C 0 rfl rfl d_LW_law_693 ?_
  refine j_iload_n C 3 rfl rfl d_LW_law_694 ?_
  refine j_iconst C (v := 1) (by decide) d_LW_law_695 ?_
  refine j_iadd C d_LW_law_696 ?_
  refine j_sld C hX (6 * c + 1) (by omega) (by omega) (nI_1 _) d_LW_law_697 ?_
  refine j_aload_n C 0 rfl rfl d_LW_law_698 ?_
  refine j_iload_n C 3 rfl rfl d_LW_law_699 ?_
  refine j_iconst C (v := 2) (by decide) d_LW_law_700 ?_
  refine j_iadd C d_LW_law_701 ?_
  refine j_sld C hX (6 * c + 2) (by omega) (by omega) (nI_p2 _) d_LW_law_702 ?_
  refine j_callV (ci := 0) (Cn := "TollLedger") (T := T_TL) (N := 10) C [.int (xs (6 * c + 1)), .int (xs (6 * c + 2))] [] (m_TL_funds _ _ _ _ _ (xs (6 * c + 1)) (xs (6 * c + 2)) σ hf1) (gdV wd_3_181 wd_3_182 wd_3_183 wd_1_1 wc_TL_funds) hy_TL_funds rfl ⟨0, rfl⟩ rfl rfl (by decide) (by decide) (by omega) (by omega) (Nat.le_of_ble_eq_true rfl) d_LW_law_703 (j_kI (r := r) (σ1 := σ) ?_)
  refine j_aload_n C 2 rfl rfl d_LW_law_706 ?_
  refine j_aload_n C 0 rfl rfl d_LW_law_707 ?_
  refine j_iload_n C 3 rfl rfl d_LW_law_708 ?_
  refine j_iconst C (v := 1) (by decide) d_LW_law_709 ?_
  refine j_iadd C d_LW_law_710 ?_
  refine j_sld C hX (6 * c + 1) (by omega) (by omega) (nI_1 _) d_LW_law_711 ?_
  refine j_aload_n C 0 rfl rfl d_LW_law_712 ?_
  refine j_iload_n C 3 rfl rfl d_LW_law_713 ?_
  refine j_iconst C (v := 2) (by decide) d_LW_law_714 ?_
  refine j_iadd C d_LW_law_715 ?_
  refine j_sld C hX (6 * c + 2) (by omega) (by omega) (nI_p2 _) d_LW_law_716 ?_
  refine j_callV (ci := 10) (Cn := "TollLedgerModel") (T := T_MD) (N := 39) C [.int (xs (6 * c + 1)), .int (xs (6 * c + 2))] [.int r] (m_MD_funds _ _ _ _ _ (xs (6 * c + 1)) (xs (6 * c + 2)) σ hf2) (gdV wd_5_60 wd_5_61 wd_5_62 wd_1_11 wc_MD_funds) hy_MD_funds rfl ⟨18, rfl⟩ rfl rfl (by decide) (by decide) (by omega) (by omega) (Nat.le_of_ble_eq_true rfl) d_LW_law_717 (j_kI (r := r) (σ1 := σ) ?_)
  refine j_icmp_eq C d_LW_law_720 rfl (fun _ => ?_) (fun h => absurd rfl h)
  exact j_widen (by omega) (by omega) (kk σ hI2)
set_option maxRecDepth 100000 in
set_option maxHeartbeats 4000000 in
theorem law_book (C : JC X l D (ttf cs) eE b_LW_law "TollLedgerLaw" 4 (cd :: BIG) 11 428 600000 7302250) (hX : SX X b L xs) (hL : L ≤ 3072) (hc : 6 * c + 6 ≤ L) (hk : k + 2 ≤ 600000) (hn : n + 21 ≤ 7302250) (hok : ok_book eE Inv) (hI : Inv c σ) (kk : ∀ σ2 : ST, Inv (c + 1) σ2 → J (wfm ad cs) X 4 (k + 2) (n + 21) σ2 850 [(0, .ref b), (1, .ref (ad 0)), (2, .ref (ad 18)), (3, .int (nI (6 * c)))] []) : J (wfm ad cs) X 4 k n σ 725 [(0, .ref b), (1, .ref (ad 0)), (2, .ref (ad 18)), (3, .int (nI (6 * c)))] [] := by
  obtain ⟨r, σ1, σ2, hf1, hf2, hI2⟩ := hok c σ (xs (6 * c + 1)) (xs (6 * c + 2)) (xs (6 * c + 3)) (by omega) hI
  refine j_aload_n C 1 rfl rfl d_LW_law_725 ?_
  refine j_aload_n C 0 rfl rfl d_LW_law_726 ?_
  refine j_iload_n C 3 rfl rfl d_LW_law_727 ?_
  refine j_iconst C (v := 1) (by decide) d_LW_law_728 ?_
  refine j_iadd C d_LW_law_729 ?_
  refine j_sld C hX (6 * c + 1) (by omega) (by omega) (nI_1 _) d_LW_law_730 ?_
  refine j_aload_n C 0 rfl rfl d_LW_law_731 ?_
  refine j_iload_n C 3 rfl rfl d_LW_law_732 ?_
  refine j_iconst C (v := 2) (by decide) d_LW_law_733 ?_
  refine j_iadd C d_LW_law_734 ?_
  refine j_sld C hX (6 * c + 2) (by omega) (by omega) (nI_p2 _) d_LW_law_735 ?_
  refine j_aload_n C 0 rfl rfl d_LW_law_736 ?_
  refine j_iload_n C 3 rfl rfl d_LW_law_737 ?_
  refine j_iconst C (v := 3) (by decide) d_LW_law_738 ?_
  refine j_iadd C d_LW_law_739 ?_
  refine j_sld C hX (6 * c + 3) (by omega) (by omega) (nI_p3 _) d_LW_law_740 ?_
  refine j_callV (ci := 0) (Cn := "TollLedger") (T := T_TL) (N := 10) C [.int (xs (6 * c + 1)), .int (xs (6 * c + 2)), .int (xs (6 * c + 3))] [] (m_TL_book _ _ _ _ _ (xs (6 * c + 1)) (xs (6 * c + 2)) (xs (6 * c + 3)) σ hf1) (gdV wd_3_185 wd_3_186 wd_3_187 wd_1_1 wc_TL_book) hy_TL_book rfl ⟨0, rfl⟩ rfl rfl (by decide) (by decide) (by omega) (by omega) (Nat.le_of_ble_eq_true rfl) d_LW_law_741 (j_kI (r := r) (σ1 := σ1) ?_)
  refine j_aload_n C 2 rfl rfl d_LW_law_744 ?_
  refine j_aload_n C 0 rfl rfl d_LW_law_745 ?_
  refine j_iload_n C 3 rfl rfl d_LW_law_746 ?_
  refine j_iconst C (v := 1) (by decide) d_LW_law_747 ?_
  refine j_iadd C d_LW_law_748 ?_
  refine j_sld C hX (6 * c + 1) (by omega) (by omega) (nI_1 _) d_LW_law_749 ?_
  refine j_aload_n C 0 rfl rfl d_LW_law_750 ?_
  refine j_iload_n C 3 rfl rfl d_LW_law_751 ?_
  refine j_iconst C (v := 2) (by decide) d_LW_law_752 ?_
  refine j_iadd C d_LW_law_753 ?_
  refine j_sld C hX (6 * c + 2) (by omega) (by omega) (nI_p2 _) d_LW_law_754 ?_
  refine j_aload_n C 0 rfl rfl d_LW_law_755 ?_
  refine j_iload_n C 3 rfl rfl d_LW_law_756 ?_
  refine j_iconst C (v := 3) (by decide) d_LW_law_757 ?_
  refine j_iadd C d_LW_law_758 ?_
  refine j_sld C hX (6 * c + 3) (by omega) (by omega) (nI_p3 _) d_LW_law_759 ?_
  refine j_callV (ci := 10) (Cn := "TollLedgerModel") (T := T_MD) (N := 39) C [.int (xs (6 * c + 1)), .int (xs (6 * c + 2)), .int (xs (6 * c + 3))] [.int r] (m_MD_book _ _ _ _ _ (xs (6 * c + 1)) (xs (6 * c + 2)) (xs (6 * c + 3)) σ1 hf2) (gdV wd_5_64 wd_5_65 wd_5_66 wd_1_11 wc_MD_book) hy_MD_book rfl ⟨18, rfl⟩ rfl rfl (by decide) (by decide) (by omega) (by omega) (Nat.le_of_ble_eq_true rfl) d_LW_law_760 (j_kI (r := r) (σ1 := σ2) ?_)
  refine j_icmp_eq C d_LW_law_763 rfl (fun _ => ?_) (fun h => absurd rfl h)
  exact j_widen (by omega) (by omega) (kk σ2 hI2)
set_option maxRecDepth 100000 in
set_option maxHeartbeats 4000000 in
theorem law_offerOf (C : JC X l D (ttf cs) eE b_LW_law "TollLedgerLaw" 4 (cd :: BIG) 11 428 600000 7302250) (hX : SX X b L xs) (hL : L ≤ 3072) (hc : 6 * c + 6 ≤ L) (hk : k + 2 ≤ 600000) (hn : n + 21 ≤ 7302250) (hok : ok_offerOf eE Inv) (hI : Inv c σ) (kk : ∀ σ2 : ST, Inv (c + 1) σ2 → J (wfm ad cs) X 4 (k + 2) (n + 21) σ2 850 [(0, .ref b), (1, .ref (ad 0)), (2, .ref (ad 18)), (3, .int (nI (6 * c)))] []) : J (wfm ad cs) X 4 k n σ 768 [(0, .ref b), (1, .ref (ad 0)), (2, .ref (ad 18)), (3, .int (nI (6 * c)))] [] := by
  obtain ⟨r, hf1, hf2, hI2⟩ := hok c σ (xs (6 * c + 1)) (xs (6 * c + 2)) (by omega) hI
  refine j_aload_n C 1 rfl rfl d_LW_law_768 ?_
  refine j_aload_n C 0 rfl rfl d_LW_law_769 ?_
  refine j_iload_n C 3 rfl rfl d_LW_law_770 ?_
  refine j_iconst C (v := 1) (by decide) d_LW_law_771 ?_
  refine j_iadd C d_LW_law_772 ?_
  refine j_sld C hX (6 * c + 1) (by omega) (by omega) (nI_1 _) d_LW_law_773 ?_
  refine j_aload_n C 0 rfl rfl d_LW_law_774 ?_
  refine j_iload_n C 3 rfl rfl d_LW_law_775 ?_
  refine j_iconst C (v := 2) (by decide) d_LW_law_776 ?_
  refine j_iadd C d_LW_law_777 ?_
  refine j_sld C hX (6 * c + 2) (by omega) (by omega) (nI_p2 _) d_LW_law_778 ?_
  refine j_callV (ci := 0) (Cn := "TollLedger") (T := T_TL) (N := 10) C [.int (xs (6 * c + 1)), .int (xs (6 * c + 2))] [] (m_TL_offerOf _ _ _ _ _ (xs (6 * c + 1)) (xs (6 * c + 2)) σ hf1) (gdV wd_3_190 wd_3_191 wd_3_192 wd_1_1 wc_TL_offerOf) hy_TL_offerOf rfl ⟨0, rfl⟩ rfl rfl (by decide) (by decide) (by omega) (by omega) (Nat.le_of_ble_eq_true rfl) d_LW_law_779 (j_kI (r := r) (σ1 := σ) ?_)
  refine j_aload_n C 2 rfl rfl d_LW_law_782 ?_
  refine j_aload_n C 0 rfl rfl d_LW_law_783 ?_
  refine j_iload_n C 3 rfl rfl d_LW_law_784 ?_
  refine j_iconst C (v := 1) (by decide) d_LW_law_785 ?_
  refine j_iadd C d_LW_law_786 ?_
  refine j_sld C hX (6 * c + 1) (by omega) (by omega) (nI_1 _) d_LW_law_787 ?_
  refine j_aload_n C 0 rfl rfl d_LW_law_788 ?_
  refine j_iload_n C 3 rfl rfl d_LW_law_789 ?_
  refine j_iconst C (v := 2) (by decide) d_LW_law_790 ?_
  refine j_iadd C d_LW_law_791 ?_
  refine j_sld C hX (6 * c + 2) (by omega) (by omega) (nI_p2 _) d_LW_law_792 ?_
  refine j_callV (ci := 10) (Cn := "TollLedgerModel") (T := T_MD) (N := 39) C [.int (xs (6 * c + 1)), .int (xs (6 * c + 2))] [.int r] (m_MD_offerOf _ _ _ _ _ (xs (6 * c + 1)) (xs (6 * c + 2)) σ hf2) (gdV wd_5_68 wd_5_69 wd_5_70 wd_1_11 wc_MD_offerOf) hy_MD_offerOf rfl ⟨18, rfl⟩ rfl rfl (by decide) (by decide) (by omega) (by omega) (Nat.le_of_ble_eq_true rfl) d_LW_law_793 (j_kI (r := r) (σ1 := σ) ?_)
  refine j_icmp_eq C d_LW_law_796 rfl (fun _ => ?_) (fun h => absurd rfl h)
  exact j_widen (by omega) (by omega) (kk σ hI2)
set_option maxRecDepth 100000 in
set_option maxHeartbeats 4000000 in
theorem law_depositOf (C : JC X l D (ttf cs) eE b_LW_law "TollLedgerLaw" 4 (cd :: BIG) 11 428 600000 7302250) (hX : SX X b L xs) (hL : L ≤ 3072) (hc : 6 * c + 6 ≤ L) (hk : k + 2 ≤ 600000) (hn : n + 21 ≤ 7302250) (hok : ok_depositOf eE Inv) (hI : Inv c σ) (kk : ∀ σ2 : ST, Inv (c + 1) σ2 → J (wfm ad cs) X 4 (k + 2) (n + 21) σ2 850 [(0, .ref b), (1, .ref (ad 0)), (2, .ref (ad 18)), (3, .int (nI (6 * c)))] []) : J (wfm ad cs) X 4 k n σ 801 [(0, .ref b), (1, .ref (ad 0)), (2, .ref (ad 18)), (3, .int (nI (6 * c)))] [] := by
  obtain ⟨r, hf1, hf2, hI2⟩ := hok c σ (xs (6 * c + 1)) (by omega) hI
  refine j_aload_n C 1 rfl rfl d_LW_law_801 ?_
  refine j_aload_n C 0 rfl rfl d_LW_law_802 ?_
  refine j_iload_n C 3 rfl rfl d_LW_law_803 ?_
  refine j_iconst C (v := 1) (by decide) d_LW_law_804 ?_
  refine j_iadd C d_LW_law_805 ?_
  refine j_sld C hX (6 * c + 1) (by omega) (by omega) (nI_1 _) d_LW_law_806 ?_
  refine j_callV (ci := 0) (Cn := "TollLedger") (T := T_TL) (N := 10) C [.int (xs (6 * c + 1))] [] (m_TL_depositOf _ _ _ _ _ (xs (6 * c + 1)) σ hf1) (gdV wd_3_194 wd_3_195 wd_3_196 wd_1_1 wc_TL_depositOf) hy_TL_depositOf rfl ⟨0, rfl⟩ rfl rfl (by decide) (by decide) (by omega) (by omega) (Nat.le_of_ble_eq_true rfl) d_LW_law_807 (j_kI (r := r) (σ1 := σ) ?_)
  refine j_aload_n C 2 rfl rfl d_LW_law_810 ?_
  refine j_aload_n C 0 rfl rfl d_LW_law_811 ?_
  refine j_iload_n C 3 rfl rfl d_LW_law_812 ?_
  refine j_iconst C (v := 1) (by decide) d_LW_law_813 ?_
  refine j_iadd C d_LW_law_814 ?_
  refine j_sld C hX (6 * c + 1) (by omega) (by omega) (nI_1 _) d_LW_law_815 ?_
  refine j_callV (ci := 10) (Cn := "TollLedgerModel") (T := T_MD) (N := 39) C [.int (xs (6 * c + 1))] [.int r] (m_MD_depositOf _ _ _ _ _ (xs (6 * c + 1)) σ hf2) (gdV wd_5_72 wd_5_73 wd_5_74 wd_1_11 wc_MD_depositOf) hy_MD_depositOf rfl ⟨18, rfl⟩ rfl rfl (by decide) (by decide) (by omega) (by omega) (Nat.le_of_ble_eq_true rfl) d_LW_law_816 (j_kI (r := r) (σ1 := σ) ?_)
  refine j_icmp_eq C d_LW_law_819 rfl (fun _ => ?_) (fun h => absurd rfl h)
  exact j_widen (by omega) (by omega) (kk σ hI2)
set_option maxRecDepth 100000 in
set_option maxHeartbeats 4000000 in
theorem law_burnt (C : JC X l D (ttf cs) eE b_LW_law "TollLedgerLaw" 4 (cd :: BIG) 11 428 600000 7302250) (hX : SX X b L xs) (hL : L ≤ 3072) (hc : 6 * c + 6 ≤ L) (hk : k + 2 ≤ 600000) (hn : n + 21 ≤ 7302250) (hok : ok_burnt eE Inv) (hI : Inv c σ) (kk : ∀ σ2 : ST, Inv (c + 1) σ2 → J (wfm ad cs) X 4 (k + 2) (n + 21) σ2 850 [(0, .ref b), (1, .ref (ad 0)), (2, .ref (ad 18)), (3, .int (nI (6 * c)))] []) : J (wfm ad cs) X 4 k n σ 824 [(0, .ref b), (1, .ref (ad 0)), (2, .ref (ad 18)), (3, .int (nI (6 * c)))] [] := by
  obtain ⟨r, hf1, hf2, hI2⟩ := hok c σ (by omega) hI
  refine j_aload_n C 1 rfl rfl d_LW_law_824 ?_
  refine j_callV (ci := 0) (Cn := "TollLedger") (T := T_TL) (N := 10) C [] [] (m_TL_burnt _ _ _ _ _ σ hf1) (gdV wd_3_198 wd_3_199 wd_3_200 wd_1_1 wc_TL_burnt) hy_TL_burnt rfl ⟨0, rfl⟩ rfl rfl (by decide) (by decide) (by omega) (by omega) (Nat.le_of_ble_eq_true rfl) d_LW_law_825 (j_kI (r := r) (σ1 := σ) ?_)
  refine j_aload_n C 2 rfl rfl d_LW_law_828 ?_
  refine j_callV (ci := 10) (Cn := "TollLedgerModel") (T := T_MD) (N := 39) C [] [.int r] (m_MD_burnt _ _ _ _ _ σ hf2) (gdV wd_5_76 wd_5_77 wd_5_78 wd_1_11 wc_MD_burnt) hy_MD_burnt rfl ⟨18, rfl⟩ rfl rfl (by decide) (by decide) (by omega) (by omega) (Nat.le_of_ble_eq_true rfl) d_LW_law_829 (j_kI (r := r) (σ1 := σ) ?_)
  refine j_icmp_eq C d_LW_law_832 rfl (fun _ => ?_) (fun h => absurd rfl h)
  exact j_widen (by omega) (by omega) (kk σ hI2)
set_option maxRecDepth 100000 in
set_option maxHeartbeats 4000000 in
theorem law_root (C : JC X l D (ttf cs) eE b_LW_law "TollLedgerLaw" 4 (cd :: BIG) 11 428 600000 7302250) (hX : SX X b L xs) (hL : L ≤ 3072) (hc : 6 * c + 6 ≤ L) (hk : k + 2 ≤ 600000) (hn : n + 21 ≤ 7302250) (hok : ok_root eE Inv) (hI : Inv c σ) (kk : ∀ σ2 : ST, Inv (c + 1) σ2 → J (wfm ad cs) X 4 (k + 2) (n + 21) σ2 850 [(0, .ref b), (1, .ref (ad 0)), (2, .ref (ad 18)), (3, .int (nI (6 * c)))] []) : J (wfm ad cs) X 4 k n σ 837 [(0, .ref b), (1, .ref (ad 0)), (2, .ref (ad 18)), (3, .int (nI (6 * c)))] [] := by
  obtain ⟨r, σ1, σ2, hf1, hf2, hI2⟩ := hok c σ (by omega) hI
  refine j_aload_n C 1 rfl rfl d_LW_law_837 ?_
  refine j_callV (ci := 0) (Cn := "TollLedger") (T := T_TL) (N := 10) C [] [] (m_TL_root _ _ _ _ _ σ hf1) (gdV wd_3_202 wd_3_203 wd_3_204 wd_1_1 wc_TL_root) hy_TL_root rfl ⟨0, rfl⟩ rfl rfl (by decide) (by decide) (by omega) (by omega) (Nat.le_of_ble_eq_true rfl) d_LW_law_838 (j_kI (r := r) (σ1 := σ1) ?_)
  refine j_aload_n C 2 rfl rfl d_LW_law_841 ?_
  refine j_callV (ci := 10) (Cn := "TollLedgerModel") (T := T_MD) (N := 39) C [] [.int r] (m_MD_root _ _ _ _ _ σ1 hf2) (gdV wd_5_80 wd_5_81 wd_5_82 wd_1_11 wc_MD_root) hy_MD_root rfl ⟨18, rfl⟩ rfl rfl (by decide) (by decide) (by omega) (by omega) (Nat.le_of_ble_eq_true rfl) d_LW_law_842 (j_kI (r := r) (σ1 := σ2) ?_)
  refine j_icmp_eq C d_LW_law_845 rfl (fun _ => ?_) (fun h => absurd rfl h)
  exact j_widen (by omega) (by omega) (kk σ2 hI2)
end LAW
