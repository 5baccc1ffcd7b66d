section FRM
variable {eE : Nat × Nat} {μ ν σ τ : ST} {K L : Nat}
theorem CA_sP {q k : Nat} {v : Int32} (hq : pK σ q ≠ 1) (h : CA σ τ) : CA (sP σ q k v) τ := by
  refine ⟨fun j hj => ?_, h.2⟩
  obtain ⟨e1, e2, f⟩ := h.1 j hj
  have hne : aq σ j ≠ q := fun z => hq (z ▸ e2.2)
  have pe : ∀ i, pP (sP σ q k v) (aq σ j) i = pP σ (aq σ j) i := fun i => by rw [pP_sP, if_neg hne]
  exact ⟨e1, e2, (pe 0).trans f.1, (pe 1).trans f.2.1, (pe 3).trans f.2.2.1, (pe 2).trans f.2.2.2⟩
theorem CO_sP {q k : Nat} {v : Int32} (hq : pK σ q ≠ 2) (h : CO eE σ τ) : CO eE (sP σ q k v) τ := by
  refine ⟨h.1, fun j hj => ?_, h.2.2⟩
  obtain ⟨e1, e2, f0, f1, f2, f3, f4, f5⟩ := h.2.1 j hj
  have hne : oq σ j ≠ q := fun z => hq (z ▸ e2.2)
  have pe : ∀ i, pP (sP σ q k v) (oq σ j) i = pP σ (oq σ j) i := fun i => by rw [pP_sP, if_neg hne]
  exact ⟨e1, e2, (pe 0).trans f0, (pe 1).trans f1, (pe 2).trans f2, (pe 3).trans f3, (pe 4).trans f4, (pe 5).trans f5⟩
theorem CD_sP {q k : Nat} {v : Int32} (hq : pK σ q ≠ 3) (h : CD eE σ τ) : CD eE (sP σ q k v) τ := by
  refine ⟨h.1, fun j hj => ?_, h.2.2⟩
  obtain ⟨e1, e2, f0, f1, f2, f3, f4, f5⟩ := h.2.1 j hj
  have hne : dq σ j ≠ q := fun z => hq (z ▸ e2.2)
  have pe : ∀ i, pP (sP σ q k v) (dq σ j) i = pP σ (dq σ j) i := fun i => by rw [pP_sP, if_neg hne]
  exact ⟨e1, e2, (pe 0).trans f0, (pe 1).trans f1, (pe 2).trans f2, (pe 3).trans f3, (pe 4).trans f4, (pe 5).trans f5⟩
theorem gA_ne {b c i j : Nat} {v : Int32} (h : b ≠ c) : gA (sA σ c i v) b j = gA σ b j := by rw [gA_sA, if_neg h]
theorem gA_eq {b i : Nat} {v : Int32} : gA (sA σ b i v) b i = v := by rw [gA_sA, if_pos rfl, if_pos rfl]
theorem gA_nj {b i j : Nat} {v : Int32} (h : j ≠ i) : gA (sA σ b i v) b j = gA σ b j := by rw [gA_sA, if_pos rfl, if_neg h]
theorem QM_sA {b i : Nat} {v : Int32} (hb : b < 8) (h : QM μ σ) : QM μ (sA σ b i v) := ⟨h.1, h.2.1, fun a j ha => (gA_ne (by omega)).trans (h.2.2.1 a j ha), h.2.2.2⟩
theorem QM_sI {j : Nat} {v : Int32} (hj : j < 21) (h : QM μ σ) : QM μ (sI σ j v) := ⟨fun i hi => (if_neg (by omega)).trans (h.1 i hi), h.2⟩
theorem QT_sA {b i : Nat} {v : Int32} (hb : 8 ≤ b) (h : QT ν τ) : QT ν (sA τ b i v) := ⟨h.1, fun a j ha => (gA_ne (by omega)).trans (h.2.1 a j ha), h.2.2⟩
theorem QT_sI {j : Nat} {v : Int32} (hj : 21 ≤ j) (h : QT ν τ) : QT ν (sI τ j v) := ⟨fun i hi => (if_neg (by omega)).trans (h.1 i hi), h.2⟩
theorem CA_mA {b i : Nat} {v : Int32} (hb : b < 8 ∨ 11 < b) (h : CA σ τ) : CA σ (sA τ b i v) := by
  have e8 : gA (sA τ b i v) 8 = gA τ 8 := by funext j; exact gA_ne (by omega)
  have e9 : gA (sA τ b i v) 9 = gA τ 9 := by funext j; exact gA_ne (by omega)
  have e10 : gA (sA τ b i v) 10 = gA τ 10 := by funext j; exact gA_ne (by omega)
  have e11 : gA (sA τ b i v) 11 = gA τ 11 := by funext j; exact gA_ne (by omega)
  unfold CA at h ⊢
  rw [e8, e9, e10, e11]
  exact h
theorem CL_mA {b i : Nat} {v : Int32} (hb : b < 12 ∨ 14 < b) (h : CL σ τ) : CL σ (sA τ b i v) := by
  have e12 : gA (sA τ b i v) 12 = gA τ 12 := by funext j; exact gA_ne (by omega)
  have e13 : gA (sA τ b i v) 13 = gA τ 13 := by funext j; exact gA_ne (by omega)
  have e14 : gA (sA τ b i v) 14 = gA τ 14 := by funext j; exact gA_ne (by omega)
  unfold CL at h ⊢
  rw [e12, e13, e14]
  exact h
theorem CO_mA {b i : Nat} {v : Int32} (hb : b < 15 ∨ 20 < b) (h : CO eE σ τ) : CO eE σ (sA τ b i v) := by
  have e15 : gA (sA τ b i v) 15 = gA τ 15 := by funext j; exact gA_ne (by omega)
  have e16 : gA (sA τ b i v) 16 = gA τ 16 := by funext j; exact gA_ne (by omega)
  have e17 : gA (sA τ b i v) 17 = gA τ 17 := by funext j; exact gA_ne (by omega)
  have e18 : gA (sA τ b i v) 18 = gA τ 18 := by funext j; exact gA_ne (by omega)
  have e19 : gA (sA τ b i v) 19 = gA τ 19 := by funext j; exact gA_ne (by omega)
  have e20 : gA (sA τ b i v) 20 = gA τ 20 := by funext j; exact gA_ne (by omega)
  unfold CO at h ⊢
  rw [e15, e16, e17, e18, e19, e20]
  exact h
theorem CD_mA {b i : Nat} {v : Int32} (hb : b < 21 ∨ 26 < b) (h : CD eE σ τ) : CD eE σ (sA τ b i v) := by
  have e21 : gA (sA τ b i v) 21 = gA τ 21 := by funext j; exact gA_ne (by omega)
  have e22 : gA (sA τ b i v) 22 = gA τ 22 := by funext j; exact gA_ne (by omega)
  have e23 : gA (sA τ b i v) 23 = gA τ 23 := by funext j; exact gA_ne (by omega)
  have e24 : gA (sA τ b i v) 24 = gA τ 24 := by funext j; exact gA_ne (by omega)
  have e25 : gA (sA τ b i v) 25 = gA τ 25 := by funext j; exact gA_ne (by omega)
  have e26 : gA (sA τ b i v) 26 = gA τ 26 := by funext j; exact gA_ne (by omega)
  unfold CD at h ⊢
  rw [e21, e22, e23, e24, e25, e26]
  exact h
theorem GA_mA {b i : Nat} {v : Int32} (hb : b < 8 ∨ 11 < b ∨ b = 10) (h : GA K τ) : GA K (sA τ b i v) := by
  have e8 : gA (sA τ b i v) 8 = gA τ 8 := by funext j; exact gA_ne (by omega)
  have e9 : gA (sA τ b i v) 9 = gA τ 9 := by funext j; exact gA_ne (by omega)
  have e11 : gA (sA τ b i v) 11 = gA τ 11 := by funext j; exact gA_ne (by omega)
  unfold GA at h ⊢
  rw [e8, e9, e11]
  exact h
theorem GL_mA {b i : Nat} {v : Int32} (hb : b < 12 ∨ 13 < b) (h : GL K τ) : GL K (sA τ b i v) := by
  have e12 : gA (sA τ b i v) 12 = gA τ 12 := by funext j; exact gA_ne (by omega)
  have e13 : gA (sA τ b i v) 13 = gA τ 13 := by funext j; exact gA_ne (by omega)
  unfold GL at h ⊢
  rw [e12, e13]
  exact h
theorem GQ_mA {b i : Nat} {v : Int32} (hb : b ≠ 14) (h : GQ τ) : GQ (sA τ b i v) := by
  have e14 : gA (sA τ b i v) 14 = gA τ 14 := by funext j; exact gA_ne (by omega)
  unfold GQ at h ⊢
  rw [e14]
  exact h
theorem GO_mA {b i : Nat} {v : Int32} (hb : b < 15 ∨ 20 < b) (h : GO L τ) : GO L (sA τ b i v) := by
  have e15 : gA (sA τ b i v) 15 = gA τ 15 := by funext j; exact gA_ne (by omega)
  have e16 : gA (sA τ b i v) 16 = gA τ 16 := by funext j; exact gA_ne (by omega)
  have e17 : gA (sA τ b i v) 17 = gA τ 17 := by funext j; exact gA_ne (by omega)
  have e18 : gA (sA τ b i v) 18 = gA τ 18 := by funext j; exact gA_ne (by omega)
  have e19 : gA (sA τ b i v) 19 = gA τ 19 := by funext j; exact gA_ne (by omega)
  have e20 : gA (sA τ b i v) 20 = gA τ 20 := by funext j; exact gA_ne (by omega)
  unfold GO at h ⊢
  rw [e15, e16, e17, e18, e19, e20]
  exact h
theorem GD_mA {b i : Nat} {v : Int32} (hb : b < 21 ∨ 24 < b) (h : GD L τ) : GD L (sA τ b i v) := by
  have e21 : gA (sA τ b i v) 21 = gA τ 21 := by funext j; exact gA_ne (by omega)
  have e22 : gA (sA τ b i v) 22 = gA τ 22 := by funext j; exact gA_ne (by omega)
  have e23 : gA (sA τ b i v) 23 = gA τ 23 := by funext j; exact gA_ne (by omega)
  have e24 : gA (sA τ b i v) 24 = gA τ 24 := by funext j; exact gA_ne (by omega)
  unfold GD at h ⊢
  rw [e21, e22, e23, e24]
  exact h
theorem c_sI {j : Nat} {v : Int32} (hj : 9 ≤ j ∧ j ≤ 17 ∨ j = 19) (h : Core eE μ ν σ τ) : Core eE μ ν (sI σ j v) τ := by
  obtain ⟨h1, h2, h3, h4, h5, h6, h7, h8⟩ := h
  refine ⟨?_, h2, h3, h4, h5, h6, QM_sI (by omega) h7, h8⟩
  obtain ⟨a0, a1, a2, a3, a4, a5, a6, a7, a8, a9, a10⟩ := h1
  have e : ∀ i, i ≠ j → gI (sI σ j v) i = gI σ i := fun i hi => if_neg hi
  exact ⟨(e 0 (by omega)).trans a0, (e 1 (by omega)).trans a1, (e 2 (by omega)).trans a2, (e 3 (by omega)).trans a3, (e 4 (by omega)).trans a4, (e 5 (by omega)).trans a5, (e 6 (by omega)).trans a6, (e 7 (by omega)).trans a7, (e 8 (by omega)).trans a8, (e 18 (by omega)).trans a9, (e 20 (by omega)).trans a10⟩
theorem c_sA {b i : Nat} {v : Int32} (hb : 3 ≤ b ∧ b < 8) (h : Core eE μ ν σ τ) : Core eE μ ν (sA σ b i v) τ := by
  obtain ⟨h1, h2, h3, h4, h5, h6, h7, h8⟩ := h
  refine ⟨h1, h2, fun j hj => ?_, h4, h5, h6, QM_sA (by omega) h7, h8⟩
  obtain ⟨a0, a1, a2⟩ := h3 j hj
  exact ⟨(gA_ne (by omega)).trans a0, (gA_ne (by omega)).trans a1, (gA_ne (by omega)).trans a2⟩
theorem c_sW {b : Nat} {f : Nat → Int32} (hb : 3 ≤ b ∧ b < 8) (h : Core eE μ ν σ τ) : Core eE μ ν (sW σ b f) τ := by
  obtain ⟨h1, h2, h3, h4, h5, h6, h7, h8⟩ := h
  have e : ∀ a j, a ≠ b → gA (sW σ b f) a j = gA σ a j := fun a j ha => by rw [gA_sW, if_neg ha]
  refine ⟨h1, h2, fun j hj => ?_, h4, h5, h6, ⟨h7.1, h7.2.1, fun a j ha => (e a j (by omega)).trans (h7.2.2.1 a j ha), h7.2.2.2⟩, h8⟩
  obtain ⟨a0, a1, a2⟩ := h3 j hj
  exact ⟨(e 0 j (by omega)).trans a0, (e 1 j (by omega)).trans a1, (e 2 j (by omega)).trans a2⟩
theorem c_sR {i : Nat} {v : Option Nat} (h : Core eE μ ν σ τ) : Core eE μ ν (sR σ 1 i v) τ := by
  obtain ⟨h1, h2, h3, h4, h5, h6, h7, h8⟩ := h
  exact ⟨h1, CA_congr h2 (by funext j; rw [gR_sR, if_neg (by decide)]) rfl rfl rfl, h3, h4, h5, h6, h7, h8⟩
theorem m_sI {j : Nat} {v : Int32} (hj : j = 32) (h : Core eE μ ν σ τ) : Core eE μ ν σ (sI τ j v) := by
  subst hj
  obtain ⟨h1, h2, h3, h4, h5, h6, h7, h8⟩ := h
  exact ⟨h1, h2, h3, h4, h5, h6, h7, QT_sI (by omega) h8⟩
theorem m_sL {j : Nat} {v : Int64} (h : Core eE μ ν σ τ) : Core eE μ ν σ (sL τ j v) := h
theorem m_sV {j : Nat} {v : Int64} (h : Core eE μ ν σ τ) : Core eE μ ν σ (sV τ j v) := h
theorem m_sA {b i : Nat} {v : Int32} (hb : 27 ≤ b) (h : Core eE μ ν σ τ) : Core eE μ ν σ (sA τ b i v) := by
  obtain ⟨h1, h2, h3, h4, h5, h6, h7, h8⟩ := h
  exact ⟨h1, CA_mA (by omega) h2, CL_mA (by omega) h3, CO_mA (by omega) h4, CD_mA (by omega) h5, h6, h7, QT_sA (by omega) h8⟩
theorem g_sI {j : Nat} {v : Int32} (hj : j = 32) (h : Good K L τ) : Good K L (sI τ j v) := by
  subst hj
  exact h
theorem g_sL {j : Nat} {v : Int64} (h : Good K L τ) : Good K L (sL τ j v) := h
theorem g_sV {j : Nat} {v : Int64} (h : Good K L τ) : Good K L (sV τ j v) := h
theorem g_sA {b i : Nat} {v : Int32} (hb : 27 ≤ b) (h : Good K L τ) : Good K L (sA τ b i v) :=
  ⟨h.1, GA_mA (by omega) h.2.1, GL_mA (by omega) h.2.2.1, GQ_mA (by omega) h.2.2.2.1, GO_mA (by omega) h.2.2.2.2.1, GD_mA (by omega) h.2.2.2.2.2⟩
theorem c_s0 {v : Int32} (h : Core eE μ ν σ τ) : Core eE μ ν (sI σ 0 v) (sI τ 25 v) := by
  obtain ⟨h1, h2, h3, h4, h5, h6, h7, h8⟩ := h
  obtain ⟨a0, a1, a2, a3, a4, a5, a6, a7, a8, a9, a10⟩ := h1
  exact ⟨⟨rfl, a1, a2, a3, a4, a5, a6, a7, a8, a9, a10⟩, h2, h3, h4, h5, h6, QM_sI (by omega) h7, QT_sI (by omega) h8⟩
theorem c_s1 {v : Int32} (h : Core eE μ ν σ τ) : Core eE μ ν (sI σ 1 v) (sI τ 26 v) := by
  obtain ⟨h1, h2, h3, h4, h5, h6, h7, h8⟩ := h
  obtain ⟨a0, a1, a2, a3, a4, a5, a6, a7, a8, a9, a10⟩ := h1
  exact ⟨⟨a0, rfl, a2, a3, a4, a5, a6, a7, a8, a9, a10⟩, h2, h3, h4, h5, h6, QM_sI (by omega) h7, QT_sI (by omega) h8⟩
theorem c_s2 {v : Int32} (h : Core eE μ ν σ τ) : Core eE μ ν (sI σ 2 v) (sI τ 27 v) := by
  obtain ⟨h1, h2, h3, h4, h5, h6, h7, h8⟩ := h
  obtain ⟨a0, a1, a2, a3, a4, a5, a6, a7, a8, a9, a10⟩ := h1
  exact ⟨⟨a0, a1, rfl, a3, a4, a5, a6, a7, a8, a9, a10⟩, h2, h3, h4, h5, h6, QM_sI (by omega) h7, QT_sI (by omega) h8⟩
theorem c_s3 {v : Int32} (h : Core eE μ ν σ τ) : Core eE μ ν (sI σ 3 v) (sI τ 28 v) := by
  obtain ⟨h1, h2, h3, h4, h5, h6, h7, h8⟩ := h
  obtain ⟨a0, a1, a2, a3, a4, a5, a6, a7, a8, a9, a10⟩ := h1
  exact ⟨⟨a0, a1, a2, rfl, a4, a5, a6, a7, a8, a9, a10⟩, h2, h3, h4, h5, h6, QM_sI (by omega) h7, QT_sI (by omega) h8⟩
theorem c_s4 {v : Int32} (h : Core eE μ ν σ τ) : Core eE μ ν (sI σ 4 v) (sI τ 29 v) := by
  obtain ⟨h1, h2, h3, h4, h5, h6, h7, h8⟩ := h
  obtain ⟨a0, a1, a2, a3, a4, a5, a6, a7, a8, a9, a10⟩ := h1
  exact ⟨⟨a0, a1, a2, a3, rfl, a5, a6, a7, a8, a9, a10⟩, h2, h3, h4, h5, h6, QM_sI (by omega) h7, QT_sI (by omega) h8⟩
theorem c_s5 {v : Int32} (h : Core eE μ ν σ τ) : Core eE μ ν (sI σ 5 v) (sI τ 30 v) := by
  obtain ⟨h1, h2, h3, h4, h5, h6, h7, h8⟩ := h
  obtain ⟨a0, a1, a2, a3, a4, a5, a6, a7, a8, a9, a10⟩ := h1
  exact ⟨⟨a0, a1, a2, a3, a4, rfl, a6, a7, a8, a9, a10⟩, h2, h3, h4, h5, h6, QM_sI (by omega) h7, QT_sI (by omega) h8⟩
theorem c_s6 {v : Int32} (h : Core eE μ ν σ τ) : Core eE μ ν (sI σ 6 v) (sI τ 31 v) := by
  obtain ⟨h1, h2, h3, h4, h5, h6, h7, h8⟩ := h
  obtain ⟨a0, a1, a2, a3, a4, a5, a6, a7, a8, a9, a10⟩ := h1
  exact ⟨⟨a0, a1, a2, a3, a4, a5, rfl, a7, a8, a9, a10⟩, h2, h3, h4, h5, h6, QM_sI (by omega) h7, QT_sI (by omega) h8⟩
theorem c_coin {a : Nat} {v : Int32} (ha : a < 6) (h : Core eE μ ν σ τ) : Core eE μ ν (sP σ (aq σ a) 1 v) (sA τ 9 a v) := by
  obtain ⟨h1, h2, h3, h4, h5, h6, h7, h8⟩ := h
  have hk := (h2.1 a ha).2.1
  refine ⟨h1, ⟨fun i hi => ?_, h2.2⟩, CL_mA (by omega) h3, CO_mA (by omega) (CO_sP (by rw [hk.2]; decide) h4), CD_mA (by omega) (CD_sP (by rw [hk.2]; decide) h5), h6, h7, QT_sA (by omega) h8⟩
  obtain ⟨e1, e2, f0, f1, f3, f2⟩ := h2.1 i hi
  refine ⟨e1, e2, ?_⟩
  show pP (sP σ (aq σ a) 1 v) (aq σ i) 0 = _ ∧ pP (sP σ (aq σ a) 1 v) (aq σ i) 1 = _ ∧ pP (sP σ (aq σ a) 1 v) (aq σ i) 3 = _ ∧ pP (sP σ (aq σ a) 1 v) (aq σ i) 2 = _
  by_cases hia : i = a
  · subst hia
    simp only [pP_sP, gA_sA, reduceIte, Nat.reduceEqDiff]
    exact ⟨f0, trivial, f3, f2⟩
  · have hne : aq σ i ≠ aq σ a := fun z => hia (h2.2 i a hi ha z)
    simp only [pP_sP, gA_sA, if_neg hne, if_neg hia, reduceIte, Nat.reduceEqDiff]
    exact ⟨f0, f1, f3, f2⟩
theorem c_rate {a : Nat} {v : Int32} (ha : a < 6) (h : Core eE μ ν σ τ) : Core eE μ ν (sP σ (aq σ a) 3 v) (sA τ 11 a v) := by
  obtain ⟨h1, h2, h3, h4, h5, h6, h7, h8⟩ := h
  have hk := (h2.1 a ha).2.1
  refine ⟨h1, ⟨fun i hi => ?_, h2.2⟩, CL_mA (by omega) h3, CO_mA (by omega) (CO_sP (by rw [hk.2]; decide) h4), CD_mA (by omega) (CD_sP (by rw [hk.2]; decide) h5), h6, h7, QT_sA (by omega) h8⟩
  obtain ⟨e1, e2, f0, f1, f3, f2⟩ := h2.1 i hi
  refine ⟨e1, e2, ?_⟩
  show pP (sP σ (aq σ a) 3 v) (aq σ i) 0 = _ ∧ pP (sP σ (aq σ a) 3 v) (aq σ i) 1 = _ ∧ pP (sP σ (aq σ a) 3 v) (aq σ i) 3 = _ ∧ pP (sP σ (aq σ a) 3 v) (aq σ i) 2 = _
  by_cases hia : i = a
  · subst hia
    simp only [pP_sP, gA_sA, reduceIte, Nat.reduceEqDiff]
    exact ⟨f0, f1, trivial, f2⟩
  · have hne : aq σ i ≠ aq σ a := fun z => hia (h2.2 i a hi ha z)
    simp only [pP_sP, gA_sA, if_neg hne, if_neg hia, reduceIte, Nat.reduceEqDiff]
    exact ⟨f0, f1, f3, f2⟩
theorem c_num {a : Nat} {v : Int32} (ha : a < 6) (hx : gA τ 8 a ≠ 0) (h : Core eE μ ν σ τ) : Core eE μ ν (sP σ (aq σ a) 2 v) (sA τ 10 a v) := by
  obtain ⟨h1, h2, h3, h4, h5, h6, h7, h8⟩ := h
  have hk := (h2.1 a ha).2.1
  refine ⟨h1, ⟨fun i hi => ?_, h2.2⟩, CL_mA (by omega) h3, CO_mA (by omega) (CO_sP (by rw [hk.2]; decide) h4), CD_mA (by omega) (CD_sP (by rw [hk.2]; decide) h5), h6, h7, QT_sA (by omega) h8⟩
  obtain ⟨e1, e2, f0, f1, f3, f2⟩ := h2.1 i hi
  refine ⟨e1, e2, ?_⟩
  show pP (sP σ (aq σ a) 2 v) (aq σ i) 0 = _ ∧ pP (sP σ (aq σ a) 2 v) (aq σ i) 1 = _ ∧ pP (sP σ (aq σ a) 2 v) (aq σ i) 3 = _ ∧ pP (sP σ (aq σ a) 2 v) (aq σ i) 2 = _
  by_cases hia : i = a
  · subst hia
    simp only [pP_sP, gA_sA, reduceIte, Nat.reduceEqDiff]
    exact ⟨f0, f1, f3, (if_neg hx).symm⟩
  · have hne : aq σ i ≠ aq σ a := fun z => hia (h2.2 i a hi ha z)
    simp only [pP_sP, gA_sA, if_neg hne, if_neg hia, reduceIte, Nat.reduceEqDiff]
    exact ⟨f0, f1, f3, f2⟩
theorem c_new {a : Nat} (ha : a < 6) (hx : gA τ 8 a = 0) (h : Core eE μ ν σ τ) : Core eE μ ν (sP σ (aq σ a) 0 1) (sA (sA τ 8 a 1) 10 a 1) := by
  obtain ⟨h1, h2, h3, h4, h5, h6, h7, h8⟩ := h
  have hk := (h2.1 a ha).2.1
  refine ⟨h1, ⟨fun i hi => ?_, h2.2⟩, CL_mA (by omega) (CL_mA (by omega) h3), CO_mA (by omega) (CO_mA (by omega) (CO_sP (by rw [hk.2]; decide) h4)), CD_mA (by omega) (CD_mA (by omega) (CD_sP (by rw [hk.2]; decide) h5)), h6, h7, QT_sA (by omega) (QT_sA (by omega) h8)⟩
  obtain ⟨e1, e2, f0, f1, f3, f2⟩ := h2.1 i hi
  refine ⟨e1, e2, ?_⟩
  show pP (sP σ (aq σ a) 0 1) (aq σ i) 0 = _ ∧ pP (sP σ (aq σ a) 0 1) (aq σ i) 1 = _ ∧ pP (sP σ (aq σ a) 0 1) (aq σ i) 3 = _ ∧ pP (sP σ (aq σ a) 0 1) (aq σ i) 2 = _
  by_cases hia : i = a
  · subst hia
    rw [if_pos hx] at f2
    simp only [pP_sP, gA_sA, reduceIte, Nat.reduceEqDiff]
    exact ⟨trivial, f1, f3, by rw [f2]; decide⟩
  · have hne : aq σ i ≠ aq σ a := fun z => hia (h2.2 i a hi ha z)
    simp only [pP_sP, gA_sA, if_neg hne, if_neg hia, reduceIte, Nat.reduceEqDiff]
    exact ⟨f0, f1, f3, f2⟩
theorem c_old {a : Nat} (ha : a < 6) (hx : gA τ 8 a = 1) (h : Core eE μ ν σ τ) : Core eE μ ν (sP σ (aq σ a) 0 1) τ := by
  obtain ⟨h1, h2, h3, h4, h5, h6, h7, h8⟩ := h
  have hk := (h2.1 a ha).2.1
  refine ⟨h1, ⟨fun i hi => ?_, h2.2⟩, h3, CO_sP (by rw [hk.2]; decide) h4, CD_sP (by rw [hk.2]; decide) h5, h6, h7, h8⟩
  obtain ⟨e1, e2, f0, f1, f3, f2⟩ := h2.1 i hi
  refine ⟨e1, e2, ?_⟩
  show pP (sP σ (aq σ a) 0 1) (aq σ i) 0 = _ ∧ pP (sP σ (aq σ a) 0 1) (aq σ i) 1 = _ ∧ pP (sP σ (aq σ a) 0 1) (aq σ i) 3 = _ ∧ pP (sP σ (aq σ a) 0 1) (aq σ i) 2 = _
  by_cases hia : i = a
  · subst hia
    simp only [pP_sP, reduceIte, Nat.reduceEqDiff]
    exact ⟨hx.symm, f1, f3, f2⟩
  · have hne : aq σ i ≠ aq σ a := fun z => hia (h2.2 i a hi ha z)
    simp only [pP_sP, if_neg hne]
    exact ⟨f0, f1, f3, f2⟩
theorem c_bal {i : Nat} {v : Int32} (h : Core eE μ ν σ τ) : Core eE μ ν (sA σ 0 i v) (sA τ 12 i v) := by
  obtain ⟨h1, h2, h3, h4, h5, h6, h7, h8⟩ := h
  refine ⟨h1, CA_mA (by omega) h2, fun j hj => ?_, CO_mA (by omega) h4, CD_mA (by omega) h5, h6, QM_sA (by omega) h7, QT_sA (by omega) h8⟩
  obtain ⟨f0, f1, f2⟩ := h3 j hj
  by_cases hij : j = i
  · subst hij
    simp only [gA_sA, reduceIte, Nat.reduceEqDiff]
    exact ⟨trivial, f1, f2⟩
  · simp only [gA_sA, if_neg hij, reduceIte, Nat.reduceEqDiff]
    exact ⟨f0, f1, f2⟩
theorem c_lim {i : Nat} {v : Int32} (h : Core eE μ ν σ τ) : Core eE μ ν (sA σ 1 i v) (sA τ 13 i v) := by
  obtain ⟨h1, h2, h3, h4, h5, h6, h7, h8⟩ := h
  refine ⟨h1, CA_mA (by omega) h2, fun j hj => ?_, CO_mA (by omega) h4, CD_mA (by omega) h5, h6, QM_sA (by omega) h7, QT_sA (by omega) h8⟩
  obtain ⟨f0, f1, f2⟩ := h3 j hj
  by_cases hij : j = i
  · subst hij
    simp only [gA_sA, reduceIte, Nat.reduceEqDiff]
    exact ⟨f0, trivial, f2⟩
  · simp only [gA_sA, if_neg hij, reduceIte, Nat.reduceEqDiff]
    exact ⟨f0, f1, f2⟩
theorem c_qui {i : Nat} {v : Int32} (h : Core eE μ ν σ τ) : Core eE μ ν (sA σ 2 i v) (sA τ 14 i v) := by
  obtain ⟨h1, h2, h3, h4, h5, h6, h7, h8⟩ := h
  refine ⟨h1, CA_mA (by omega) h2, fun j hj => ?_, CO_mA (by omega) h4, CD_mA (by omega) h5, h6, QM_sA (by omega) h7, QT_sA (by omega) h8⟩
  obtain ⟨f0, f1, f2⟩ := h3 j hj
  by_cases hij : j = i
  · subst hij
    simp only [gA_sA, reduceIte, Nat.reduceEqDiff]
    exact ⟨f0, f1, trivial⟩
  · simp only [gA_sA, if_neg hij, reduceIte, Nat.reduceEqDiff]
    exact ⟨f0, f1, f2⟩
end FRM
