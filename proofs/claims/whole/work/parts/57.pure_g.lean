def tc_f4 (σ : tc_S) (n z v c : Int32) : tc_S := tc_sf (tc_sf (tc_sf (tc_sf σ 3 n) 4 z) 5 v) 6 c
theorem tc_f4_T {b : Nat} {σ τ : tc_S} (h : tc_T b σ τ) {n z v c : Int32} (hn : tc_B 2 n) (hz : tc_B 2 z) (hv : tc_B 2 v) (hc : tc_B 2 c) : tc_T b (tc_f4 σ n z v c) (tc_f4 τ n z v c) := by
  unfold tc_f4
  exact tc_T_sf (tc_T_sf (tc_T_sf (tc_T_sf h 3 (by decide) (by decide) (by decide) (by decide) hn) 4 (by decide) (by decide) (by decide) (by decide) hz) 5 (by decide) (by decide) (by decide) (by decide) hv) 6 (by decide) (by decide) (by decide) (by decide) hc
theorem tc_sf_over (σ : tc_S) (k : Nat) (v u : Int32) : tc_sf (tc_sf σ k v) k u = tc_sf σ k u := by
  unfold tc_sf
  refine Prod.ext ?_ rfl
  funext x
  simp only [upd]
  split <;> rfl
theorem tc_nz_f4 (σ : tc_S) (n z v c : Int32) : tc_sf (tc_sf (tc_nz σ n z) 5 v) 6 c = tc_f4 σ n z v c := by
  unfold tc_nz tc_f4
  rw [tc_sf_comm _ 0 v (show (6 : Nat) ≠ 5 by decide), tc_sf_over, tc_sf_over]
theorem tc_reck (σ : tc_S) (s l : Int32) (hl : l = 0 ∨ l = 1) : m_XM_setReckonedFlags σ s l = some (tc_f4 σ (if (s &&& 65535) < 32768 then 0 else 1) (if (s &&& 65535) = 0 then 1 else 0) (if s = s.toInt16.toInt32 then 0 else 1) l) := by
  unfold m_XM_setReckonedFlags m_XM_setReckonedFlags_18
  rw [tc_nz_c]
  simp only [tc_bs, ti_pos, ti_zero, tc_gb_0, tc_gb_1, ← tc_nz_f4]
  unfold tc_gb
  rw [if_pos hl]
  split <;> rfl
theorem ti_b15 (z : Int32) : (z &&& 32768 = 0) ↔ z.toBitVec.getLsbD 15 = false := by
  obtain ⟨n, hn, rfl⟩ := tc_B_any z
  rw [tb_bit0 15 (by decide) (show (32768 : Int32) = nI (2 ^ 15) from rfl)]
  show _ ↔ (BitVec.ofNat 32 n).getLsbD 15 = false
  rw [BitVec.getLsbD_ofNat, Nat.testBit_eq_decide_div_mod_eq]
  simp
theorem ti_g15 (n : Nat) : (nI n).toBitVec.getLsbD 15 = decide (n / 32768 % 2 = 1) := by
  show (BitVec.ofNat 32 n).getLsbD 15 = _
  rw [BitVec.getLsbD_ofNat, Nat.testBit_eq_decide_div_mod_eq]
  simp
theorem ti_s15 (X Y W : Nat) : ((((nI X ^^^ nI Y) ^^^ (-1)) &&& (nI X ^^^ nI W)) &&& 32768 = 0) ↔ ¬ (X / 32768 % 2 = Y / 32768 % 2 ∧ X / 32768 % 2 ≠ W / 32768 % 2) := by
  rw [ti_b15]
  show (((nI X).toBitVec ^^^ (nI Y).toBitVec ^^^ (-1 : Int32).toBitVec) &&& ((nI X).toBitVec ^^^ (nI W).toBitVec)).getLsbD 15 = false ↔ _
  simp only [BitVec.getLsbD_and, BitVec.getLsbD_xor, ti_g15]
  have m1 : (-1 : Int32).toBitVec.getLsbD 15 = true := by decide
  rw [m1]
  have a : X / 32768 % 2 = 0 ∨ X / 32768 % 2 = 1 := by omega
  have b : Y / 32768 % 2 = 0 ∨ Y / 32768 % 2 = 1 := by omega
  have c : W / 32768 % 2 = 0 ∨ W / 32768 % 2 = 1 := by omega
  rcases a with a | a <;> rcases b with b | b <;> rcases c with c | c <;> simp [a, b, c]
theorem ti_d15 (X Y W : Nat) : (((nI X ^^^ nI Y) &&& (nI X ^^^ nI W)) &&& 32768 = 0) ↔ ¬ (X / 32768 % 2 ≠ Y / 32768 % 2 ∧ X / 32768 % 2 ≠ W / 32768 % 2) := by
  rw [ti_b15]
  show (((nI X).toBitVec ^^^ (nI Y).toBitVec) &&& ((nI X).toBitVec ^^^ (nI W).toBitVec)).getLsbD 15 = false ↔ _
  simp only [BitVec.getLsbD_and, BitVec.getLsbD_xor, ti_g15]
  have a : X / 32768 % 2 = 0 ∨ X / 32768 % 2 = 1 := by omega
  have b : Y / 32768 % 2 = 0 ∨ Y / 32768 % 2 = 1 := by omega
  have c : W / 32768 % 2 = 0 ∨ W / 32768 % 2 = 1 := by omega
  rcases a with a | a <;> rcases b with b | b <;> rcases c with c | c <;> simp [a, b, c]
theorem ti_s16 (p : Int32) {X : Nat} (h : p.toBitVec.toNat % 65536 = X) : p.toInt16.toInt32.toInt = if X < 32768 then (X : Int) else (X : Int) - 65536 := by
  rw [ti_16]
  subst h
  generalize p.toBitVec.toNat = n
  simp only [Int.bmod_def]
  split <;> split <;> omega
set_option maxRecDepth 100000 in
theorem ti_sum {p q : Int32} {X Y : Nat} (hp : p.toBitVec.toNat % 65536 = X) (hq : q.toBitVec.toNat % 65536 = Y) :
    (p.toInt16.toInt32 + q.toInt16.toInt32) &&& 65535 = nI ((X + Y) % 65536) ∧ ((p.toInt16.toInt32 + q.toInt16.toInt32 = (p.toInt16.toInt32 + q.toInt16.toInt32).toInt16.toInt32) ↔ ¬ (X / 32768 % 2 = Y / 32768 % 2 ∧ X / 32768 % 2 ≠ (X + Y) % 65536 / 32768 % 2)) := by
  have h1 := ti_s16 p hp
  have h2 := ti_s16 q hq
  have bX : X < 65536 := by omega
  have bY : Y < 65536 := by omega
  clear hp hq
  have h3 := Int32.toInt_add p.toInt16.toInt32 q.toInt16.toInt32
  rw [h1, h2] at h3
  generalize p.toInt16.toInt32 + q.toInt16.toInt32 = s at h3
  have h4 := ti_nat s
  have h5 := ti_16 s
  have h6 := s.toBitVec.isLt
  have h7 : (s = s.toInt16.toInt32) ↔ s.toInt = s.toInt16.toInt32.toInt := Int32.toInt_inj.symm
  rw [ti_and16, h7, h5]
  clear h1 h2 h5 h7
  generalize s.toBitVec.toNat = N at *
  generalize s.toInt = S at *
  have h8 : Int.bmod (N : Int) 65536 = if N % 65536 < 32768 then ((N % 65536 : Nat) : Int) else ((N % 65536 : Nat) : Int) - 65536 := by
    simp only [Int.bmod_def]
    split <;> split <;> omega
  have h9 : S = N ∨ S = N - 4294967296 := by
    rw [h4]
    simp only [Int.bmod_def]
    split <;> omega
  clear h4
  rw [h8]
  clear h8
  have h10 : S = (if X < 32768 then (X : Int) else (X : Int) - 65536) + (if Y < 32768 then (Y : Int) else (Y : Int) - 65536) := by
    rw [h3]
    clear h3 h9
    simp only [Int.bmod_def]
    by_cases c1 : X < 32768 <;> by_cases c2 : Y < 32768 <;> simp only [c1, c2, if_true, if_false] <;> split <;> omega
  clear h3
  have h11 : N % 65536 = (X + Y) % 65536 := by
    by_cases c1 : X < 32768 <;> by_cases c2 : Y < 32768 <;> simp only [c1, c2, if_true, if_false] at h10 <;> omega
  clear h9
  refine ⟨congrArg nI h11, ?_⟩
  rw [h11]
  clear h11 h6
  by_cases c1 : X < 32768 <;> by_cases c2 : Y < 32768 <;> simp only [c1, c2, if_true, if_false] at h10 <;> by_cases c3 : (X + Y) % 65536 < 32768 <;> simp only [c3, if_true, if_false] <;> omega
set_option maxRecDepth 100000 in
theorem ti_diff {p q : Int32} {X Y : Nat} (hp : p.toBitVec.toNat % 65536 = X) (hq : q.toBitVec.toNat % 65536 = Y) :
    (p.toInt16.toInt32 - q.toInt16.toInt32) &&& 65535 = nI ((X + 65536 - Y) % 65536) ∧ ((p.toInt16.toInt32 - q.toInt16.toInt32 = (p.toInt16.toInt32 - q.toInt16.toInt32).toInt16.toInt32) ↔ ¬ (X / 32768 % 2 ≠ Y / 32768 % 2 ∧ X / 32768 % 2 ≠ (X + 65536 - Y) % 65536 / 32768 % 2)) := by
  have h1 := ti_s16 p hp
  have h2 := ti_s16 q hq
  have bX : X < 65536 := by omega
  have bY : Y < 65536 := by omega
  clear hp hq
  have h3 := Int32.toInt_sub p.toInt16.toInt32 q.toInt16.toInt32
  rw [h1, h2] at h3
  generalize p.toInt16.toInt32 - q.toInt16.toInt32 = s at h3
  have h4 := ti_nat s
  have h5 := ti_16 s
  have h6 := s.toBitVec.isLt
  have h7 : (s = s.toInt16.toInt32) ↔ s.toInt = s.toInt16.toInt32.toInt := Int32.toInt_inj.symm
  rw [ti_and16, h7, h5]
  clear h1 h2 h5 h7
  generalize s.toBitVec.toNat = N at *
  generalize s.toInt = S at *
  have h8 : Int.bmod (N : Int) 65536 = if N % 65536 < 32768 then ((N % 65536 : Nat) : Int) else ((N % 65536 : Nat) : Int) - 65536 := by
    simp only [Int.bmod_def]
    split <;> split <;> omega
  have h9 : S = N ∨ S = N - 4294967296 := by
    rw [h4]
    simp only [Int.bmod_def]
    split <;> omega
  clear h4
  rw [h8]
  clear h8
  have h10 : S = (if X < 32768 then (X : Int) else (X : Int) - 65536) - (if Y < 32768 then (Y : Int) else (Y : Int) - 65536) := by
    rw [h3]
    clear h3 h9
    simp only [Int.bmod_def]
    by_cases c1 : X < 32768 <;> by_cases c2 : Y < 32768 <;> simp only [c1, c2, if_true, if_false] <;> split <;> omega
  clear h3
  have h11 : N % 65536 = (X + 65536 - Y) % 65536 := by
    by_cases c1 : X < 32768 <;> by_cases c2 : Y < 32768 <;> simp only [c1, c2, if_true, if_false] at h10 <;> omega
  clear h9
  refine ⟨congrArg nI h11, ?_⟩
  rw [h11]
  clear h11 h6
  by_cases c1 : X < 32768 <;> by_cases c2 : Y < 32768 <;> simp only [c1, c2, if_true, if_false] at h10 <;> by_cases c3 : (X + 65536 - Y) % 65536 < 32768 <;> simp only [c3, if_true, if_false] <;> omega
theorem tc_radd (τ : tc_S) {X Y : Nat} (hX : X < 65536) (hY : Y < 65536) : m_XR_add τ (nI X) (nI Y) 0 = some (nI ((X + Y) % 65536), tc_f4 τ (if nI ((X + Y) % 65536) < 32768 then 0 else 1) (if nI ((X + Y) % 65536) = 0 then 1 else 0) (if ¬ (X / 32768 % 2 = Y / 32768 % 2 ∧ X / 32768 % 2 ≠ (X + Y) % 65536 / 32768 % 2) then 0 else 1) (if X + Y ≤ 65535 then 0 else 1)) := by
  have e1 : nI X + nI Y = nI (X + Y) := nI_add X Y
  have e2 : nI (X + Y) &&& 65535 = nI ((X + Y) % 65536) := tc_msk (by omega) 16 (by decide)
  have e3 : nI (X + Y) < (0 : Int32) ↔ False := ⟨fun k => absurd k (nI_pos (by omega)), False.elim⟩
  have e4 : nI (X + Y) ≤ (65535 : Int32) ↔ X + Y ≤ 65535 := nI_leI (b := 65535) (by omega) (by decide)
  unfold m_XR_add m_XR_add_13 m_XR_add_47 m_XR_add_62 m_XR_add_76 m_XR_add_93 m_XR_add_109 m_XR_add_114 tc_f4
  simp only [e1, e2, e3, e4, ti_s15, tc_gb_0, tc_gb_1, if_true, if_false]
  split <;> split <;> split <;> split <;> rfl
theorem tc_rsub (τ : tc_S) {X Y : Nat} (hX : X < 65536) (hY : Y < 65536) : m_XR_add τ (nI X) (nI Y) 1 = some (nI ((X + 65536 - Y) % 65536), tc_f4 τ (if nI ((X + 65536 - Y) % 65536) < 32768 then 0 else 1) (if nI ((X + 65536 - Y) % 65536) = 0 then 1 else 0) (if ¬ (X / 32768 % 2 ≠ Y / 32768 % 2 ∧ X / 32768 % 2 ≠ (X + 65536 - Y) % 65536 / 32768 % 2) then 0 else 1) (if Y ≤ X then 0 else 1)) := by
  have t1 : (nI X - nI Y).toInt = (X : Int) - Y := pk_sub_toInt (by omega) (by omega)
  have e2 : (nI X - nI Y) &&& 65535 = nI ((X + 65536 - Y) % 65536) := by
    rw [ti_and16]
    have h4 := ti_nat (nI X - nI Y)
    have h6 := (nI X - nI Y).toBitVec.isLt
    rw [t1] at h4
    generalize (nI X - nI Y).toBitVec.toNat = N at *
    simp only [Int.bmod_def] at h4
    congr 1
    split at h4 <;> omega
  have e3 : (nI X - nI Y < (0 : Int32)) ↔ ¬ Y ≤ X := by
    rw [Int32.lt_iff_toInt_lt, t1, show (0 : Int32).toInt = 0 from rfl]; omega
  have e4 : (nI X - nI Y ≤ (65535 : Int32)) ↔ True := by
    rw [Int32.le_iff_toInt_le, t1, show (65535 : Int32).toInt = 65535 from rfl]
    exact ⟨fun _ => trivial, fun _ => by omega⟩
  have n1 : ¬ (1 : Int32) = 0 := by decide
  unfold m_XR_add m_XR_add_13 m_XR_add_47 m_XR_add_62 m_XR_add_76 m_XR_add_93 m_XR_add_109 m_XR_add_114 tc_f4
  simp only [n1, e2, e3, e4, ti_d15, tc_gb_0, tc_gb_1, if_true, if_false]
  by_cases c : Y ≤ X
  · simp only [c, not_true, if_true, if_false]
    split <;> split <;> split <;> rfl
  · simp only [c, not_false_eq_true, if_true, if_false]
    split <;> split <;> split <;> rfl
