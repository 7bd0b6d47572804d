/-! short and byte -/
theorem ti_nat (v : Int32) : v.toInt = Int.bmod (v.toBitVec.toNat : Int) 4294967296 := by
  show v.toBitVec.toInt = _
  rw [BitVec.toInt_eq_toNat_bmod]
theorem ti_16 (v : Int32) : v.toInt16.toInt32.toInt = Int.bmod (v.toBitVec.toNat : Int) 65536 := by
  rw [Int16.toInt_toInt32, Int32.toInt_toInt16, ti_nat]
  have h := v.toBitVec.isLt
  generalize v.toBitVec.toNat = n at h
  simp only [Int.bmod_def]
  omega
theorem ti_8 (v : Int32) : v.toInt8.toInt32.toInt = Int.bmod (v.toBitVec.toNat : Int) 256 := by
  rw [Int8.toInt_toInt32, Int32.toInt_toInt8, ti_nat]
  have h := v.toBitVec.isLt
  generalize v.toBitVec.toNat = n at h
  simp only [Int.bmod_def]
  omega
theorem ti_and16 (v : Int32) : v &&& 65535 = nI (v.toBitVec.toNat % 65536) := pk_and v 16 (by decide)
theorem ti_and8 (v : Int32) : v &&& 255 = nI (v.toBitVec.toNat % 256) := pk_and v 8 (by decide)
theorem ti_pos (v : Int32) : (0 ≤ v.toInt16.toInt32) ↔ (v &&& 65535) < 32768 := by
  rw [ti_and16, Int32.le_iff_toInt_le, ti_16, show ((0 : Int32).toInt) = 0 from rfl]
  have l : nI (v.toBitVec.toNat % 65536) < (32768 : Int32) ↔ v.toBitVec.toNat % 65536 < 32768 := nI_ltI (b := 32768) (by omega) (by decide)
  rw [l]
  generalize v.toBitVec.toNat = n
  simp only [Int.bmod_def]
  omega
theorem ti_zero (v : Int32) : (v.toInt16.toInt32 = 0) ↔ (v &&& 65535) = 0 := by
  rw [ti_and16]
  have l : (nI (v.toBitVec.toNat % 65536) = 0) ↔ v.toBitVec.toNat % 65536 = 0 := tc_eqN (a := 0) rfl (by decide) (by omega)
  rw [l, ← Int32.toInt_inj, ti_16, show ((0 : Int32).toInt) = 0 from rfl]
  generalize v.toBitVec.toNat = n
  simp only [Int.bmod_def]
  omega
theorem ti_byte (v : Int32) : v.toInt8.toInt32 = if (v &&& 255) ≤ 127 then (v &&& 255) else (v &&& 255) - 256 := by
  rw [ti_and8]
  have hm : v.toBitVec.toNat % 256 < 256 := Nat.mod_lt _ (by decide)
  have e := ti_8 v
  have l : nI (v.toBitVec.toNat % 256) ≤ (127 : Int32) ↔ v.toBitVec.toNat % 256 ≤ 127 := nI_leI (b := 127) (by omega) (by decide)
  apply Int32.toInt_inj.mp
  rw [e]
  generalize v.toBitVec.toNat = n at hm l
  by_cases c : n % 256 ≤ 127
  · rw [if_pos (l.mpr c), nI_toInt (by omega)]
    simp only [Int.bmod_def]
    omega
  · rw [if_neg (fun k => c (l.mp k)), show nI (n % 256) - 256 = nI (n % 256) - nI 256 from rfl, pk_sub_toInt (by omega) (by decide)]
    simp only [Int.bmod_def]
    omega
theorem ti_byte0 (v : Int32) : (v.toInt8.toInt32 = 0) ↔ (v &&& 255) = 0 := by
  rw [ti_and8]
  have l : (nI (v.toBitVec.toNat % 256) = 0) ↔ v.toBitVec.toNat % 256 = 0 := tc_eqN (a := 0) rfl (by decide) (by omega)
  rw [l, ← Int32.toInt_inj, ti_8, show ((0 : Int32).toInt) = 0 from rfl]
  generalize v.toBitVec.toNat = n
  simp only [Int.bmod_def]
  omega
theorem ti_low (v u : Int32) : (v &&& (-65536) ||| (u &&& 65535)) &&& 65535 = u &&& 65535 := by
  apply Int32.toBitVec_inj.mp
  show (v.toBitVec &&& (-65536 : Int32).toBitVec ||| (u.toBitVec &&& (65535 : Int32).toBitVec)) &&& (65535 : Int32).toBitVec = u.toBitVec &&& (65535 : Int32).toBitVec
  have h1 : (-65536 : Int32).toBitVec = ~~~ (65535 : Int32).toBitVec := by decide
  rw [h1]
  generalize (65535 : Int32).toBitVec = m
  apply BitVec.eq_of_getLsbD_eq
  intro i hi
  simp only [BitVec.getLsbD_and, BitVec.getLsbD_or, BitVec.getLsbD_not, hi, decide_true, Bool.true_and]
  cases v.toBitVec.getLsbD i <;> cases u.toBitVec.getLsbD i <;> cases m.getLsbD i <;> rfl
theorem ti_B16 {v : Int32} (h : tc_B 65536 v) : v &&& 65535 = v := by
  obtain ⟨n, hn, rfl⟩ := h
  rw [tc_msk (by omega) 16 (by decide), Nat.mod_eq_of_lt hn]
/-! the low word of a register -/
def tc_lo (σ : tc_S) (n u : Int32) : tc_S := tc_sa σ 0 n ((tc_ga σ 0 n &&& (-65536)) ||| u)
theorem tc_gd7 {α : Type} (y : Int32) (x : Option α) : tc_gd (y &&& 7) 8 x = x := tc_gd_and (k := 3) y (by decide) (by decide)
theorem tc_lo_c (σ : tc_S) (y v : Int32) : m_XM_setLowWord σ (y &&& 7) v = some (tc_lo σ (y &&& 7) (v &&& 65535)) := by
  unfold m_XM_setLowWord
  rw [tc_gd7, tc_gd7]; rfl
theorem tc_lo_r (σ : tc_S) (y v : Int32) : m_XR_setLow σ (y &&& 7) v = some (tc_lo σ (y &&& 7) v) := by
  unfold m_XR_setLow
  rw [tc_gd7, tc_gd7]; rfl
theorem tc_lo_T {b : Nat} {σ τ : tc_S} (h : tc_T b σ τ) (n u : Int32) : tc_T b (tc_lo σ n u) (tc_lo τ n u) := by
  unfold tc_lo
  rw [tc_T_a h 0 (by decide)]
  exact tc_T_sa h 0 _ (by decide) (tc_B_any _)
theorem tc_load_c (σ : tc_S) (y v : Int32) : m_XM_load σ (y &&& 7) v = some (tc_nz (tc_lo σ (y &&& 7) (v &&& 65535)) (if (v &&& 65535) < 32768 then 0 else 1) (if (v &&& 65535) = 0 then 1 else 0)) := by
  unfold m_XM_load
  rw [tc_lo_c]
  simp only [tc_bs]
  rw [tc_nz_c]
  simp only [tc_bs, ti_pos, ti_zero]
/-- an instruction that was known, or neither side knew it -/
def tc_QK (b : Nat) (a c : Int32 × tc_S) : Prop := a.1 = c.1 ∧ tc_B 45 c.1 ∧ (1 : Int32) < c.1 ∧ tc_T b a.2 c.2
def tc_QD (b : Nat) (σ τ : tc_S) (a c : Int32 × tc_S) : Prop := tc_QK b a c ∨ (a.1 = 0 ∧ c.1 = -1 ∧ a.2 = σ ∧ c.2 = τ)
theorem tc_QK_l {b : Nat} {σ' τ' : tc_S} {v : Int32} (k : Nat) (hv : v = nI k) (h1 : 1 < k) (h2 : k < 45) (h : tc_T b σ' τ') : tc_QK b (v, σ') (v, τ') := ⟨rfl, ⟨k, h2, hv⟩, by rw [hv]; exact nI_lt (a := 1) h1 (by omega), h⟩
theorem tc_QD_l {b : Nat} {σ τ σ' τ' : tc_S} {v : Int32} (k : Nat) (hv : v = nI k) (h1 : 1 < k) (h2 : k < 45) (h : tc_T b σ' τ') : tc_QD b σ τ (v, σ') (v, τ') := Or.inl (tc_QK_l k hv h1 h2 h)
/-! MOVE -/
theorem tc_k1 {b : Nat} {σ τ : tc_S} (h : tc_T b σ τ) (w y : Int32) : tc_M (tc_QK b) (tc_gd (w &&& 7) 8 ((m_XM_load σ (y &&& 7) (tc_ga σ 0 (w &&& 7))).bind (fun q27 => (some ((4 : Int32), q27))))) (tc_gd (w &&& 7) 8 ((m_XR_setLow τ (y &&& 7) ((tc_ga τ 0 (w &&& 7)) &&& 65535)).bind (fun q127 => (tc_gd (w &&& 7) 8 ((m_XR_testWord q127 ((tc_ga q127 0 (w &&& 7)) &&& 65535)).bind (fun q140 => (some ((4 : Int32), q140)))))))) := by
  rw [tc_gd7, tc_gd7, tc_load_c, tc_lo_r, tc_T_a h 0 (by decide)]
  simp only [tc_bs]
  rw [tc_gd7, tc_nz_r]
  simp only [tc_bs]
  have e : tc_ga (tc_lo τ (y &&& 7) (tc_ga τ 0 (w &&& 7) &&& 65535)) 0 (w &&& 7) &&& 65535 = tc_ga τ 0 (w &&& 7) &&& 65535 := by
    unfold tc_lo
    rw [tc_ga_sa, if_pos rfl]
    by_cases c : (w &&& 7).toNatClampNeg = (y &&& 7).toNatClampNeg
    · rw [if_pos c]; exact ti_low _ _
    · rw [if_neg c]
  rw [e]
  exact tc_M_some (tc_QK_l 4 rfl (by decide) (by decide) (tc_nz_T (tc_lo_T h _ _) tc_ite2.1 tc_ite2.2))
theorem tc_k2 {b : Nat} {σ τ : tc_S} (h : tc_T b σ τ) (y : Int32) : tc_M (tc_QK b) ((m_XM_nextWord σ).bind (fun q49 => ((m_XU_read q49.2 q49.1).bind (fun q52 => ((m_XM_load q52.2 (y &&& 7) q52.1).bind (fun q55 => (some ((12 : Int32), q55)))))))) ((m_XR_fetch τ).bind (fun q159 => ((m_XR_read q159.2 q159.1).bind (fun q162 => ((m_XR_setLow q162.2 (y &&& 7) q162.1).bind (fun q171 => ((m_XR_testWord q171 q162.1).bind (fun q177 => (some ((12 : Int32), q177)))))))))) := by
  refine tc_M_bind (tc_fetch h) (fun a c k => ?_)
  obtain ⟨e1, ⟨n, hn, en⟩, h1⟩ := k
  rw [e1, en]
  refine tc_M_bind (tc_read h1 hn) (fun a c k => ?_)
  obtain ⟨e2, hv, h2⟩ := k
  rw [tc_load_c, tc_lo_r, e2, ti_B16 hv]
  simp only [tc_bs]
  rw [tc_nz_r]
  simp only [tc_bs]
  exact tc_M_some (tc_QK_l 12 rfl (by decide) (by decide) (tc_nz_T (tc_lo_T h2 _ _) tc_ite2.1 tc_ite2.2))
/-- a word goes to an address that is fetched -/
theorem tc_k34 {b : Nat} {σ τ : tc_S} (h : tc_T b σ τ) {v : Int32} (hv : tc_B 65536 v) {r : Int32} (k : Nat) (hr : r = nI k) (k1 : 1 < k) (k2 : k < 45) : tc_M (tc_QK b) ((m_XM_nextWord σ).bind (fun q120 => ((m_XU_write q120.2 q120.1 v).bind (fun q125 => ((m_XM_setMoveFlags q125 v.toInt16.toInt32).bind (fun q132 => some (r, q132))))))) ((m_XR_fetch τ).bind (fun q242 => ((m_XR_write q242.2 q242.1 v).bind (fun q247 => ((m_XR_testWord q247 v).bind (fun q253 => (some (r, q253)))))))) := by
  refine tc_M_bind (tc_fetch h) (fun a c k => ?_)
  obtain ⟨e1, ⟨n, hn, en⟩, h1⟩ := k
  rw [e1, en]
  refine tc_M_bind (tc_write h1 hn hv) (fun a c k => ?_)
  rw [tc_nz_c, tc_nz_r]
  simp only [tc_bs, ti_pos, ti_zero, ti_B16 hv]
  exact tc_M_some (tc_QK_l _ hr k1 k2 (tc_nz_T k tc_ite2.1 tc_ite2.2))
/-! MOVEQ -/
theorem tc_k5 {b : Nat} {σ τ : tc_S} (h : tc_T b σ τ) (w y : Int32) : tc_M (tc_QK b) (tc_gd (y &&& 7) 8 ((m_XM_setMoveFlags (tc_sa σ 0 (y &&& 7) w.toInt8.toInt32) w.toInt8.toInt32).bind (fun q28 => (some ((4 : Int32), q28))))) (if (w &&& 255) ≤ 127 then (m_XR_move_59 τ (y &&& 7) (w &&& 255) (y &&& 7)) else (m_XR_move_59 τ (y &&& 7) ((w &&& 255) - 256) (y &&& 7))) := by
  have e : (if (w &&& 255) ≤ 127 then (m_XR_move_59 τ (y &&& 7) (w &&& 255) (y &&& 7)) else (m_XR_move_59 τ (y &&& 7) ((w &&& 255) - 256) (y &&& 7))) = m_XR_move_59 τ (y &&& 7) w.toInt8.toInt32 (y &&& 7) := by
    rw [ti_byte]
    by_cases c : (w &&& 255) ≤ 127
    · rw [if_pos c, if_pos c]
    · rw [if_neg c, if_neg c]
  rw [e, tc_gd7, tc_nz_c]
  generalize w.toInt8.toInt32 = v
  simp only [tc_bs]
  have hs := tc_T_sa (i := y &&& 7) (v := v) h 0 (by decide) (tc_B_any _)
  have e2 : m_XR_move_59 τ (y &&& 7) v (y &&& 7) = some (4, tc_nz (tc_sa τ 0 (y &&& 7) v) (if 0 ≤ v then 0 else 1) (if v = 0 then 1 else 0)) := by
    have g : tc_ga (tc_sa τ 0 (y &&& 7) v) 0 (y &&& 7) = v := by rw [tc_ga_sa, if_pos rfl, if_pos rfl]
    have g2 : ∀ u, tc_ga (tc_sf (tc_sa τ 0 (y &&& 7) v) 3 u) 0 (y &&& 7) = v := fun u => (tc_ga_sf _ _ _ _ _).trans g
    unfold m_XR_move_59 m_XR_move_75 m_XR_move_93 tc_nz
    simp only [tc_gd7, g, g2, tc_gb_0, tc_gb_1]
    split <;> split <;> rfl
  rw [e2]
  exact tc_M_some (tc_QK_l 4 rfl (by decide) (by decide) (tc_nz_T hs tc_ite2.1 tc_ite2.2))
