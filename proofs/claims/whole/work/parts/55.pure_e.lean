/-! DATA read -/
theorem tc_rData {b : Nat} {σ τ : tc_S} (h : tc_T b σ τ) : tc_M (tc_QI b 65536) (m_XP_readData σ) (m_XR_readData τ) := by
  have h1 := tc_T_sf h 21 (by decide) (by decide) (by decide) (by decide) (tc_B_0 (b := tc_bd 21) (by decide))
  obtain ⟨n, hn, en⟩ := tc_T_B h1 19 (by decide) (by decide) (by decide)
  have hn : n < 65536 := hn
  have g19 := tc_T_g h1 19 (by decide)
  have g20 := tc_T_g h1 20 (by decide)
  have fin : ∀ {σ' τ' : tc_S} {v : Int32}, tc_T b σ' τ' → tc_B 65536 v → tc_M (tc_QI b 65536) (m_XP_readData_90 σ' v) (m_XR_readData_72 τ' v) := by
    intro σ' τ' v h' hv
    exact ⟨_, _, rfl, rfl, rfl, hv, tc_T_gw h'⟩
  have a3 : nI n / 2 = nI (n / 2) := tc_div (D := 2) (d := 2) rfl (by omega) (by decide) (by decide)
  have k2 : nI n >>> ((1 : Int32) &&& 31) = nI (n / 2) := tc_shr (by omega) _ 1 (by decide)
  have b1 : nI (n / 2) &&& 15 = nI (n / 2 % 16) := tc_msk (by omega) 4 (by decide)
  have b2 : nI (n / 2) &&& 1 = nI (n / 2 % 2) := tc_msk (by omega) 1 (by decide)
  have b3 : nI (n / 2) - nI (n / 2) / 16 * 16 = nI (n / 2 % 16) := tc_mod (D := 16) (d := 16) rfl (by omega) (by decide) (by decide)
  have b4 : nI (n / 2) - nI (n / 2) / 2 * 2 = nI (n / 2 % 2) := tc_mod (D := 2) (d := 2) rfl (by omega) (by decide) (by decide)
  have b5 : nI (n / 2) - nI (n / 2) / 512 * 512 = nI (n / 2 % 512) := tc_mod (D := 512) (d := 512) rfl (by omega) (by decide) (by decide)
  unfold m_XP_readData m_XR_readData
  rw [g19, g20, en, a3, k2, b1, b2, b3, b4, b5, tc_vw_c (by omega), tc_vw_r (by omega), tc_gd_nI (by omega) (by decide), tc_gd_nI (by omega) (by decide), tc_gd_nI (by omega) (by decide), tc_gd_nI (by omega) (by decide)]
  simp only [tc_bs]
  by_cases c0 : tc_gf (tc_sf τ 21 0) 20 &&& 15 = 0
  · rw [if_pos c0, if_pos c0, h1.1.2.2.1 2 (by decide)]
    exact fin h1 (tc_B_word (h1.2.1.2 2 _) (h1.2.1.2 2 _))
  rw [if_neg c0, if_neg c0]
  by_cases c4 : tc_gf (tc_sf τ 21 0) 20 &&& 15 = 4
  · rw [if_pos c4, if_neg (by rw [c4]; decide), if_pos c4, tc_T_a h1 4 (by decide)]
    exact fin h1 (tc_T_Ba h1 4 _)
  rw [if_neg c4]
  by_cases c8 : tc_gf (tc_sf τ 21 0) 20 &&& 15 = 8
  · rw [if_pos c8, if_pos c8, tc_T_a h1 3 (by decide)]
    exact fin h1 (tc_T_Ba h1 3 _)
  rw [if_neg c8, if_neg c8, if_neg c4]
  exact fin h1 (tc_B_0 (by decide))
/-! CONTROL read -/
def tc_sv (σ : tc_S) : Int32 := (((((if tc_gf σ 23 ≤ 0 then 0 else 2) + (if tc_gf σ 27 < 8 then 0 else 4)) + (if tc_gf σ 31 = 0 then 0 else 8)) + (if tc_gf σ 25 = 0 then 0 else 32)) + (if tc_gf σ 26 = 0 then 0 else 64))
theorem tc_sv_r (σ : tc_S) : m_XR_status σ = some (tc_sv σ, tc_sf (tc_sf (tc_sf σ 25 0) 26 0) 21 0) := by
  unfold m_XR_status m_XR_status_12 m_XR_status_26 m_XR_status_40 m_XR_status_54 m_XR_status_68 tc_sv
  split <;> split <;> split <;> split <;> split <;> rfl
theorem tc_mv_c (σ : tc_S) : m_XP_movesFromMemory σ = some (if tc_gf σ 23 ≤ 0 then 0 else 1, σ) := by
  unfold m_XP_movesFromMemory m_XP_movesFromMemory_12
  split <;> rfl
theorem tc_sv_c (σ : tc_S) : m_XU_readStatus σ = some (tc_sv σ, tc_sf (tc_sf (tc_sf σ 21 0) 25 0) 26 0) := by
  unfold m_XU_readStatus
  rw [tc_mv_c]
  simp only [tc_bs]
  have g : ∀ k, k ≠ 21 → tc_gf (tc_sf σ 21 0) k = tc_gf σ k := fun k hk => by rw [tc_gf_sf, if_neg hk]
  unfold m_XU_readStatus_23 m_XU_readStatus_40 m_XU_readStatus_57 m_XU_readStatus_74 m_XU_readStatus_91 tc_sv
  simp only [g 23 (by decide), g 27 (by decide), g 31 (by decide), g 25 (by decide), g 26 (by decide)]
  by_cases c : tc_gf σ 23 ≤ 0
  · simp only [c, if_true]
    split <;> split <;> split <;> split <;> rfl
  · simp only [c, if_false]
    rw [if_neg (by decide)]
    split <;> split <;> split <;> split <;> rfl
theorem tc_sv_B (σ : tc_S) : tc_B 65536 (tc_sv σ) := by
  unfold tc_sv
  split <;> split <;> split <;> split <;> split <;> exact ⟨_, by decide, rfl⟩
theorem tc_status {b : Nat} {σ τ : tc_S} (h : tc_T b σ τ) : tc_M (tc_QI b 65536) (m_XU_readStatus σ) (m_XR_status τ) := by
  rw [tc_sv_c, tc_sv_r]
  refine tc_M_some ⟨?_, tc_sv_B τ, ?_⟩
  · show tc_sv σ = tc_sv τ
    unfold tc_sv
    rw [tc_T_g h 23 (by decide), tc_T_g h 27 (by decide), tc_T_g h 31 (by decide), tc_T_g h 25 (by decide), tc_T_g h 26 (by decide)]
  · show tc_T b (tc_sf (tc_sf (tc_sf σ 21 0) 25 0) 26 0) (tc_sf (tc_sf (tc_sf τ 25 0) 26 0) 21 0)
    rw [tc_sf_comm (tc_sf τ 25 0) 0 0 (show (26 : Nat) ≠ 21 by decide), tc_sf_comm τ 0 0 (show (25 : Nat) ≠ 21 by decide)]
    have z : ∀ {σ' τ' : tc_S} (k : Nat), k < 33 → k ≠ 17 → k ≠ 18 → k ≠ 14 → 0 < tc_bd k → tc_T b σ' τ' → tc_T b (tc_sf σ' k 0) (tc_sf τ' k 0) := fun k h1 h2 h3 h4 h5 h' => tc_T_sf h' k h1 h2 h3 h4 (tc_B_0 h5)
    exact z 26 (by decide) (by decide) (by decide) (by decide) (by decide) (z 25 (by decide) (by decide) (by decide) (by decide) (by decide) (z 21 (by decide) (by decide) (by decide) (by decide) (by decide) h))
/-! the pad -/
theorem tc_padN : ∀ p, p < 256 → ((nI p >>> ((2 : Int32) &&& 31)) &&& 48) ||| (nI p &&& 3) = ((((nI p >>> ((7 : Int32) &&& 31)) &&& 1) * 32) + (((nI p >>> ((6 : Int32) &&& 31)) &&& 1) * 16)) + (nI p &&& 3) ∧ (64 : Int32) ||| (nI p &&& 63) = 64 + (nI p &&& 63) ∧ (((((nI p >>> ((7 : Int32) &&& 31)) &&& 1) * 32) + (((nI p >>> ((6 : Int32) &&& 31)) &&& 1) * 16)) + (nI p &&& 3)).toBitVec.toNat < 65536 ∧ (64 + (nI p &&& 63)).toBitVec.toNat < 65536 := by decide +kernel
theorem tc_B_of {x : Int32} {c : Nat} (h : x.toBitVec.toNat < c) : tc_B c x := ⟨x.toBitVec.toNat, h, by
  apply Int32.toBitVec_inj.mp
  show x.toBitVec = BitVec.ofNat 32 _
  simp⟩
theorem tc_pad {b : Nat} {σ τ : tc_S} (h : tc_T b σ τ) : tc_M (tc_QI b 65536) (m_XU_readPad σ) (m_XR_padWord τ) := by
  obtain ⟨p, hp, ep⟩ := tc_T_B h 32 (by decide) (by decide) (by decide)
  obtain ⟨u, hu, eu⟩ := tc_T_B h 33 (by decide) (by decide) (by decide)
  have hp : p < 256 := hp
  have hu : u < 2 := hu
  have g33 := h.1.2.1
  obtain ⟨k1, k2, k3, k4⟩ := tc_padN p hp
  unfold m_XU_readPad m_XR_padWord m_XR_padWord_46
  rw [g33, tc_T_g h 32 (by decide), ep, eu]
  have : u = 0 ∨ u = 1 := by omega
  rcases this with rfl | rfl
  · rw [if_pos (by decide), if_neg (by decide)]
    exact tc_M_some ⟨k1, tc_B_of k3, h⟩
  · rw [if_neg (by decide), if_pos (by decide)]
    exact tc_M_some ⟨k2, tc_B_of k4, h⟩
/-! reading -/
theorem tc_read {b : Nat} {σ τ : tc_S} (h : tc_T b σ τ) {n : Nat} (hn : n < 65536) : tc_M (tc_QI b 65536) (m_XU_read σ (nI n)) (m_XR_read τ (nI n)) := by
  have eq : ∀ a : Nat, a < 2000 → ((nI n = nI a) ↔ n = a) := fun a ha => nI_eq (by omega) (by omega)
  have q1 : (nI n = 1024) ↔ n = 1024 := eq 1024 (by decide)
  have q2 : (nI n = 1028) ↔ n = 1028 := eq 1028 (by decide)
  have q3 : (nI n = 1032) ↔ n = 1032 := eq 1032 (by decide)
  have q4 : (nI n = 1040) ↔ n = 1040 := eq 1040 (by decide)
  have q5 : (nI n = 1048) ↔ n = 1048 := eq 1048 (by decide)
  have l1 : (1024 : Int32) ≤ nI n ↔ 1024 ≤ n := tc_le (a := 1024) rfl (by decide) (by omega)
  unfold m_XU_read m_XR_read
  simp only [q1, q2, q3, q4, q5, l1]
  by_cases s1 : n = 1024
  · subst s1
    simp (decide := true) only [if_true, if_false]
    exact tc_M_bind (tc_rData h) (fun a c k => tc_M_some k)
  by_cases s2 : n = 1028
  · subst s2
    simp (decide := true) only [if_true, if_false]
    exact tc_M_bind (tc_status h) (fun a c k => tc_M_some k)
  by_cases s3 : n = 1032
  · subst s3
    simp (decide := true) only [if_true, if_false]
    obtain ⟨x, hx, ex⟩ := tc_T_B h 27 (by decide) (by decide) (by decide)
    obtain ⟨y, hy, ey⟩ := tc_T_B h 28 (by decide) (by decide) (by decide)
    have hx : x < 12 := hx
    have hy : y < 64 := hy
    rw [tc_T_g h 27 (by decide), tc_T_g h 28 (by decide), ex, ey, Int32.mul_comm]
    refine tc_M_some ⟨rfl, ⟨256 * x + y, by omega, ?_⟩, h⟩
    rw [← nI_add, ← pk_mul]; rfl
  by_cases s4 : n = 1040
  · subst s4
    simp (decide := true) only [if_true, if_false]
    rw [tc_T_g h 15 (by decide)]
    unfold m_XU_read_102 m_XR_read_102
    split
    · exact tc_M_some ⟨rfl, ⟨256, by decide, rfl⟩, h⟩
    · exact tc_M_some ⟨rfl, tc_B_0 (by decide), h⟩
  by_cases s5 : n = 1048
  · subst s5
    simp (decide := true) only [if_true, if_false]
    exact tc_M_bind (tc_pad h) (fun a c k => tc_M_some k)
  simp only [s1, s2, s3, s4, s5, if_false]
  obtain ⟨v, hv, e1, e2⟩ := tc_q h hn
  rw [e1]
  by_cases c : 1024 ≤ n
  · simp only [c, if_true, tc_bs]
    have e3 : m_XR_quiet τ (nI n) = some (0, τ) := by
      have f1 : nI n < (0 : Int32) ↔ False := ⟨fun k => absurd k (nI_pos (by omega)), False.elim⟩
      have f2 : (895 : Int32) < nI n ↔ 895 < n := nI_ltI (a := 895) (by decide) (by omega)
      have f3 : 895 < n := by omega
      unfold m_XR_quiet
      simp only [f1, f2, f3, if_true, if_false]
      rfl
    rw [e3] at e2
    have : v = 0 := (congrArg Prod.fst (Option.some.inj e2)).symm
    subst this
    exact tc_M_some ⟨rfl, hv, h⟩
  · simp only [c, if_false, e2, tc_bs]
    exact tc_M_some ⟨rfl, hv, h⟩
theorem tc_fetch {b : Nat} {σ τ : tc_S} (h : tc_T b σ τ) : tc_M (tc_QI b 65536) (m_XM_nextWord σ) (m_XR_fetch τ) := by
  obtain ⟨n, hn, en⟩ := tc_T_B h 1 (by decide) (by decide) (by decide)
  have hn : n < 65536 := hn
  obtain ⟨v, hv, e1, e2⟩ := tc_q h hn
  unfold m_XM_nextWord m_XR_fetch
  rw [tc_T_g h 1 (by decide), en, e1, e2]
  simp only [tc_bs]
  rw [tc_T_g h 1 (by decide)]
  exact tc_M_some ⟨rfl, hv, tc_T_sf h 1 (by decide) (by decide) (by decide) (by decide) (tc_B_16 _)⟩
/-! the mask and the flags -/
def tc_bt (x : Int32) : Int32 := if x = 0 then 0 else 1
def tc_fw (σ : tc_S) : Int32 := (((256 * tc_gf σ 2 + (if tc_gf σ 3 = 0 then 0 else 8)) + (if tc_gf σ 4 = 0 then 0 else 4)) + (if tc_gf σ 5 = 0 then 0 else 2)) + (if tc_gf σ 6 = 0 then 0 else 1)
theorem tc_fw_r (σ : tc_S) : m_XR_flagWord σ = some (tc_fw σ, σ) := by
  unfold m_XR_flagWord m_XR_flagWord_21 m_XR_flagWord_34 m_XR_flagWord_47 m_XR_flagWord_60 tc_fw
  split <;> split <;> split <;> split <;> rfl
theorem tc_fw_c (σ : tc_S) : m_XM_maskAndFlags σ = some (tc_fw σ, σ) := by
  unfold m_XM_maskAndFlags m_XM_maskAndFlags_21 m_XM_maskAndFlags_34 m_XM_maskAndFlags_47 m_XM_maskAndFlags_60 tc_fw
  rw [Int32.mul_comm]
  split <;> split <;> split <;> split <;> rfl
theorem tc_fw_T {b : Nat} {σ τ : tc_S} (h : tc_T b σ τ) : tc_fw σ = tc_fw τ ∧ tc_B 65536 (tc_fw τ) := by
  constructor
  · unfold tc_fw
    rw [tc_T_g h 2 (by decide), tc_T_g h 3 (by decide), tc_T_g h 4 (by decide), tc_T_g h 5 (by decide), tc_T_g h 6 (by decide)]
  · obtain ⟨x, hx, ex⟩ := tc_T_B h 2 (by decide) (by decide) (by decide)
    have hx : x < 8 := hx
    unfold tc_fw
    rw [ex, show 256 * nI x = nI (256 * x) from pk_mul 256 x]
    have st : ∀ {y : Nat} {p : Prop} [Decidable p] (k : Nat), ∃ z, z ≤ y + k ∧ nI y + (if p then 0 else nI k) = nI z := by
      intro y p _ k
      by_cases hp : p
      · exact ⟨y, by omega, by rw [if_pos hp]; exact nI_add y 0⟩
      · exact ⟨y + k, by omega, by rw [if_neg hp]; exact nI_add y k⟩
    obtain ⟨z1, l1, e1⟩ := st (y := 256 * x) (p := tc_gf τ 3 = 0) 8
    obtain ⟨z2, l2, e2⟩ := st (y := z1) (p := tc_gf τ 4 = 0) 4
    obtain ⟨z3, l3, e3⟩ := st (y := z2) (p := tc_gf τ 5 = 0) 2
    obtain ⟨z4, l4, e4⟩ := st (y := z3) (p := tc_gf τ 6 = 0) 1
    refine ⟨z4, by omega, ?_⟩
    rw [← e4, ← e3, ← e2, ← e1]; rfl
def tc_sF (σ : tc_S) (w : Int32) : tc_S := tc_sf (tc_sf (tc_sf (tc_sf (tc_sf σ 2 ((w >>> ((8 : Int32) &&& 31)) &&& 7)) 3 (tc_bt (w &&& 8))) 4 (tc_bt (w &&& 4))) 5 (tc_bt (w &&& 2))) 6 (tc_bt (w &&& 1))
theorem tc_sF_r (σ : tc_S) (w : Int32) : m_XR_setFlagWord σ w = some (tc_sF σ w) := by
  unfold m_XR_setFlagWord m_XR_setFlagWord_24 m_XR_setFlagWord_39 m_XR_setFlagWord_54 m_XR_setFlagWord_69 tc_sF tc_bt
  simp only [tc_gb_0, tc_gb_1]
  split <;> split <;> split <;> split <;> rfl
theorem tc_sF_c (σ : tc_S) (w : Int32) : m_XM_setMaskAndFlags σ w = some (tc_sF σ w) := tc_sF_r σ w
theorem tc_bt_B (x : Int32) : tc_B 2 (tc_bt x) := by
  unfold tc_bt
  split
  · exact tc_B_0 (by decide)
  · exact tc_B_1 (by decide)
theorem tc_sF_T {b : Nat} {σ τ : tc_S} (h : tc_T b σ τ) (w : Int32) : tc_T b (tc_sF σ w) (tc_sF τ w) := by
  unfold tc_sF
  exact tc_T_sf (tc_T_sf (tc_T_sf (tc_T_sf (tc_T_sf h 2 (by decide) (by decide) (by decide) (by decide) (tc_B_and _ 3 (by decide))) 3 (by decide) (by decide) (by decide) (by decide) (tc_bt_B _)) 4 (by decide) (by decide) (by decide) (by decide) (tc_bt_B _)) 5 (by decide) (by decide) (by decide) (by decide) (tc_bt_B _)) 6 (by decide) (by decide) (by decide) (by decide) (tc_bt_B _)
/-- negative, zero; the other two are cleared -/
def tc_nz (σ : tc_S) (n z : Int32) : tc_S := tc_sf (tc_sf (tc_sf (tc_sf σ 3 n) 4 z) 5 0) 6 0
theorem tc_nz_c (σ : tc_S) (v : Int32) : m_XM_setMoveFlags σ v = some (tc_nz σ (if 0 ≤ v then 0 else 1) (if v = 0 then 1 else 0)) := by
  unfold m_XM_setMoveFlags m_XM_setMoveFlags_10 m_XM_setMoveFlags_23 tc_nz
  simp only [tc_gb_0, tc_gb_1]
  split <;> split <;> rfl
theorem tc_nz_r (σ : tc_S) (v : Int32) : m_XR_testWord σ v = some (tc_nz σ (if v < 32768 then 0 else 1) (if v = 0 then 1 else 0)) := by
  unfold m_XR_testWord m_XR_testWord_12 m_XR_testWord_25 tc_nz
  simp only [tc_gb_0, tc_gb_1]
  split <;> split <;> rfl
theorem tc_nz_T {b : Nat} {σ τ : tc_S} (h : tc_T b σ τ) {n z : Int32} (hn : tc_B 2 n) (hz : tc_B 2 z) : tc_T b (tc_nz σ n z) (tc_nz τ n z) := by
  unfold tc_nz
  exact tc_T_sf (tc_T_sf (tc_T_sf (tc_T_sf h 3 (by decide) (by decide) (by decide) (by decide) hn) 4 (by decide) (by decide) (by decide) (by decide) hz) 5 (by decide) (by decide) (by decide) (by decide) (tc_B_0 (by decide))) 6 (by decide) (by decide) (by decide) (by decide) (tc_B_0 (by decide))
theorem tc_ite2 {p : Prop} [Decidable p] : tc_B 2 (if p then (0 : Int32) else 1) ∧ tc_B 2 (if p then (1 : Int32) else 0) := by
  by_cases h : p
  · rw [if_pos h, if_pos h]; exact ⟨tc_B_0 (by decide), tc_B_1 (by decide)⟩
  · rw [if_neg h, if_neg h]; exact ⟨tc_B_1 (by decide), tc_B_0 (by decide)⟩
