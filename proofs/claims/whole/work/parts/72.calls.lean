/-! the calls: both sides answer alike, and stay alike -/
def tp_Q (b : Nat) (a c : Int32 × tc_S) : Prop := a.1 = c.1 ∧ tc_T b a.2 c.2
theorem ti_hi (w : Int32) : (w >>> ((8 : Int32) &&& 31)) &&& 255 = nI (w.toBitVec.toNat / 256 % 256) := by
  rw [pk_and _ 8 (by decide)]
  have h1 := pk_shr w ((8 : Int32) &&& 31) 8 (by decide)
  have h2 := ti_nat w
  have h3 := ti_nat (w >>> ((8 : Int32) &&& 31))
  have h4 := w.toBitVec.isLt
  have h5 := (w >>> ((8 : Int32) &&& 31)).toBitVec.isLt
  rw [h1, h2, Int.shiftRight_eq_div_pow] at h3
  generalize w.toBitVec.toNat = N at *
  generalize (w >>> ((8 : Int32) &&& 31)).toBitVec.toNat = M at *
  have hh : M % 256 = N / 256 % 256 := by
    clear h1 h2
    simp only [Int.bmod_def] at h3
    split at h3 <;> split at h3 <;> omega
  exact congrArg nI hh
theorem tp_rom {b : Nat} {σ τ : tc_S} (h : tc_T b σ τ) (k w : Int32) : tc_M (tp_Q b) (m_XT_rom σ k w) (m_XR_rom τ k w) := by
  unfold m_XT_rom m_XR_rom m_XT_rom_13 m_XR_rom_11
  rcases pk_ix k (n := 256) (by decide) with c | c | ⟨j, hj, rfl⟩
  · rw [if_pos c, if_pos c]; exact tc_M_some ⟨rfl, h⟩
  · have c1 : ¬ k < 0 := by
      rw [Int32.le_iff_toInt_le, nI_toInt (by decide)] at c
      rw [Int32.lt_iff_toInt_lt, show (0 : Int32).toInt = 0 from rfl]; omega
    have c2 : ¬ k < 256 := by
      rw [Int32.le_iff_toInt_le, nI_toInt (by decide)] at c
      rw [Int32.lt_iff_toInt_lt, show (256 : Int32).toInt = 256 from rfl]; omega
    have c3 : ¬ k ≤ 255 := by
      rw [Int32.le_iff_toInt_le, nI_toInt (by decide)] at c
      rw [Int32.le_iff_toInt_le, show (255 : Int32).toInt = 255 from rfl]; omega
    rw [if_neg c1, if_neg c1, if_neg c2, if_neg c3]; exact tc_M_some ⟨rfl, h⟩
  · have c1 : ¬ nI j < (0 : Int32) := nI_pos (by omega)
    have c2 : nI j < (256 : Int32) := nI_lt (b := 256) hj (by decide)
    have c3 : nI j ≤ (255 : Int32) := nI_le (b := 255) (by omega) (by decide)
    rw [if_neg c1, if_neg c1, if_pos c2, if_pos c3, show 2 * nI j = nI (2 * j) from pk_mul 2 j, nI_1, tc_gd_nI (by omega) (by decide), tc_gd_nI (by omega) (by decide), tc_gd_nI (by omega) (by decide), ti_hi, ti_and8, ti_and16]
    refine tc_M_some ⟨rfl, tc_rel_w7 h.1 hj ?_, tc_inv_sa (tc_inv_sa h.2.1 7 _ ⟨_, (by show _ < 256; omega), rfl⟩) 7 _ ⟨_, (by show _ < 256; omega), rfl⟩, h.2.2⟩
    rw [show (256 : Int32) * nI (w.toBitVec.toNat / 256 % 256) = nI (256 * (w.toBitVec.toNat / 256 % 256)) from pk_mul 256 _, nI_add]
    congr 1; omega
theorem tp_pad {b : Nat} {σ τ : tc_S} (h : tc_T b σ τ) (k : Int32) : tc_M (tc_T b) (m_XT_pad σ k) (m_XR_pad τ k) := tc_M_some (tc_T_sf h 32 (by decide) (by decide) (by decide) (by decide) (tc_B_8 k))
theorem tp_seed {b : Nat} {σ τ : tc_S} (h : tc_T b σ τ) (k w : Int32) : tc_M (tp_Q b) (m_XT_seed σ k w) (m_XR_seed τ k w) := by
  unfold m_XT_seed m_XR_seed m_XT_seed_16 m_XR_seed_10
  rcases pk_ix k (n := 128) (by decide) with c | c | ⟨j, hj, rfl⟩
  · rw [if_pos c, if_pos c]; exact tc_M_some ⟨rfl, h⟩
  · have c1 : ¬ k < 0 := by
      rw [Int32.le_iff_toInt_le, nI_toInt (by decide)] at c
      rw [Int32.lt_iff_toInt_lt, show (0 : Int32).toInt = 0 from rfl]; omega
    have c2 : ¬ k < 128 := by
      rw [Int32.le_iff_toInt_le, nI_toInt (by decide)] at c
      rw [Int32.lt_iff_toInt_lt, show (128 : Int32).toInt = 128 from rfl]; omega
    have c3 : ¬ k ≤ 127 := by
      rw [Int32.le_iff_toInt_le, nI_toInt (by decide)] at c
      rw [Int32.le_iff_toInt_le, show (127 : Int32).toInt = 127 from rfl]; omega
    rw [if_neg c1, if_neg c1, if_neg c2, if_neg c3]; exact tc_M_some ⟨rfl, h⟩
  · have c1 : ¬ nI j < (0 : Int32) := nI_pos (by omega)
    have c2 : nI j < (128 : Int32) := nI_lt (b := 128) hj (by decide)
    have c3 : nI j ≤ (127 : Int32) := nI_le (b := 127) (by omega) (by decide)
    rw [if_neg c1, if_neg c1, if_pos c2, if_pos c3, tc_gd_nI hj (by decide), tc_gd_nI hj (by decide)]
    exact tc_M_some ⟨rfl, tc_T_sa h 1 _ (by decide) (tc_B_8 w)⟩
theorem tp_memory {b : Nat} {σ τ : tc_S} (h : tc_T b σ τ) (k : Int32) : tc_M (tp_Q b) (m_XT_memory σ k) (m_XR_memory τ k) := by
  unfold m_XT_memory m_XR_memory m_XT_memory_10
  rcases pk_ix k (n := 65536) (by decide) with c | c | ⟨j, hj, rfl⟩
  · have e : m_XR_quiet τ k = some (0, τ) := by unfold m_XR_quiet; rw [if_pos c]; rfl
    rw [if_pos c, e]; exact tc_M_some ⟨rfl, h⟩
  · rw [Int32.le_iff_toInt_le, nI_toInt (by decide)] at c
    have c1 : ¬ k < 0 := by rw [Int32.lt_iff_toInt_lt, show (0 : Int32).toInt = 0 from rfl]; omega
    have c2 : ¬ k ≤ 65535 := by rw [Int32.le_iff_toInt_le, show (65535 : Int32).toInt = 65535 from rfl]; omega
    have c3 : 895 < k := by rw [Int32.lt_iff_toInt_lt, show (895 : Int32).toInt = 895 from rfl]; omega
    have e : m_XR_quiet τ k = some (0, τ) := by unfold m_XR_quiet; rw [if_neg c1, if_pos c3]; rfl
    rw [if_neg c1, if_neg c2, e]; exact tc_M_some ⟨rfl, h⟩
  · have c1 : ¬ nI j < (0 : Int32) := nI_pos (by omega)
    have c2 : nI j ≤ (65535 : Int32) := nI_le (b := 65535) (by omega) (by decide)
    obtain ⟨v, hv, e1, e2⟩ := tc_q h hj
    rw [if_neg c1, if_pos c2, e1, e2]; exact tc_M_some ⟨rfl, h⟩
theorem tp_pixel {b : Nat} {σ τ : tc_S} (h : tc_T b σ τ) (x y : Int32) : tc_M (tp_Q b) (m_XT_pixel σ x y) (m_XR_pixel τ x y) := by
  unfold m_XT_pixel m_XR_pixel m_XT_pixel_20 m_XR_pixel_20 m_XR_pixel_35
  have e1 : (16 ≤ x) ↔ 15 < x := by
    rw [Int32.le_iff_toInt_le, Int32.lt_iff_toInt_lt, show (16 : Int32).toInt = 16 from rfl, show (15 : Int32).toInt = 15 from rfl]; omega
  have e2 : (y < 8) ↔ y ≤ 7 := by
    rw [Int32.le_iff_toInt_le, Int32.lt_iff_toInt_lt, show (8 : Int32).toInt = 8 from rfl, show (7 : Int32).toInt = 7 from rfl]; omega
  refine tc_M_if Iff.rfl (fun _ _ => tc_M_some ⟨rfl, h⟩) (fun c1 _ => ?_)
  refine tc_M_if e1 (fun _ _ => tc_M_some ⟨rfl, h⟩) (fun c2 _ => ?_)
  refine tc_M_if Iff.rfl (fun _ _ => tc_M_some ⟨rfl, h⟩) (fun c3 _ => ?_)
  refine tc_M_if e2 (fun c4 _ => ?_) (fun _ _ => tc_M_some ⟨rfl, h⟩)
  obtain ⟨i, hi, rfl⟩ : ∃ i : Nat, i < 16 ∧ x = nI i := by
    rcases pk_ix x (n := 16) (by decide) with c | c | c
    · exact absurd c c1
    · exact absurd c c2
    · exact c
  obtain ⟨j, hj, rfl⟩ : ∃ j : Nat, j < 8 ∧ y = nI j := by
    rcases pk_ix y (n := 8) (by decide) with c | c | c
    · exact absurd c c3
    · rw [Int32.le_iff_toInt_le, nI_toInt (by decide)] at c
      rw [Int32.lt_iff_toInt_lt, show (8 : Int32).toInt = 8 from rfl] at c4
      omega
    · exact c
  rw [show nI j * 16 = nI (j * 16) from pk_mul j 16, show 16 * nI j = nI (16 * j) from pk_mul 16 j, nI_add, nI_add, Nat.mul_comm j 16, tc_gd_nI (by omega) (by decide), tc_gd_nI (by omega) (by decide), tc_T_a h 6 (by decide)]
  exact tc_M_some ⟨rfl, h⟩
theorem tp_register {b : Nat} {σ τ : tc_S} (h : tc_T b σ τ) (r : Int32) : tc_M (tp_Q b) (m_XT_register σ r) (m_XR_register τ r) := by
  have g := fun k hk => tc_T_g h k hk
  have last : ∀ v : Int32, tc_M (tp_Q b) (some (v, σ)) (some (v, τ)) := fun v => tc_M_some ⟨rfl, h⟩
  have lo : ∀ a : Int32, a.toInt < 8 → a ≠ 8 ∧ True := fun a ha => ⟨fun e => by rw [e] at ha; exact absurd ha (by decide), trivial⟩
  unfold m_XT_register m_XR_register m_XR_register_10
  by_cases c0 : r < 0
  · have nz : ∀ k : Int32, 0 ≤ k.toInt → ¬ r = k := fun k hk e => by
      rw [Int32.lt_iff_toInt_lt, show (0 : Int32).toInt = 0 from rfl, e] at c0; omega
    rw [if_pos c0, if_pos c0]
    unfold m_XT_register_20
    rw [if_neg (nz 8 (by decide)), if_neg (nz 9 (by decide)), if_neg (nz 10 (by decide)), if_neg (nz 11 (by decide)), if_neg (nz 12 (by decide)), if_neg (nz 13 (by decide)), if_neg (nz 14 (by decide)), if_neg (nz 15 (by decide)), if_neg (nz 16 (by decide))]
    exact last _
  rw [if_neg c0, if_neg c0]
  by_cases c8 : 8 ≤ r
  · rw [if_pos c8]
    by_cases c16 : r ≤ 16
    · rw [if_pos c16, if_pos c8]
      unfold m_XT_register_20 m_XT_register_111 m_XT_register_126 m_XR_register_99 m_XR_register_111
      refine tc_M_if Iff.rfl (fun _ _ => by rw [g 0 (by decide)]; exact last _) (fun n8 _ => ?_)
      refine tc_M_if Iff.rfl (fun _ _ => by rw [g 1 (by decide)]; exact last _) (fun n9 _ => ?_)
      refine tc_M_if Iff.rfl (fun _ _ => by rw [tc_fw_c, tc_fw_r, tc_bs, tc_bs, (tc_fw_T h).1]; exact last _) (fun n10 _ => ?_)
      refine tc_M_if Iff.rfl (fun _ _ => ?_) (fun n11 _ => ?_)
      · rw [tc_mv_c, g 7 (by decide), g 23 (by decide)]
        refine tc_M_if Iff.rfl (fun _ _ => ?_) (fun _ _ => ?_)
        · rw [tc_bs]
          simp only []
          by_cases z : tc_gf τ 23 ≤ 0
          · rw [if_pos z, if_pos z, if_pos rfl]; exact last _
          · rw [if_neg z, if_neg z, if_neg (by decide)]; exact last _
        · rw [tc_bs]
          simp only []
          by_cases z : tc_gf τ 23 ≤ 0
          · rw [if_pos z, if_pos z, if_pos rfl]; exact last _
          · rw [if_neg z, if_neg z, if_neg (by decide)]; exact last _
      refine tc_M_if Iff.rfl (fun _ _ => by rw [g 8 (by decide)]; exact last _) (fun n12 _ => ?_)
      refine tc_M_if Iff.rfl (fun _ _ => by rw [g 9 (by decide)]; exact last _) (fun n13 _ => ?_)
      refine tc_M_if Iff.rfl (fun _ _ => by rw [g 10 (by decide)]; exact last _) (fun n14 _ => ?_)
      refine tc_M_if Iff.rfl (fun _ _ => by rw [g 11 (by decide)]; exact last _) (fun n15 _ => ?_)
      have e16 : r = 16 := by
        rw [Int32.le_iff_toInt_le] at c8 c16
        have ne : ∀ k : Int32, ¬ r = k → r.toInt ≠ k.toInt := fun k hk e => hk (Int32.toInt_inj.mp e)
        have m8 := ne 8 n8
        have m9 := ne 9 n9
        have m10 := ne 10 n10
        have m11 := ne 11 n11
        have m12 := ne 12 n12
        have m13 := ne 13 n13
        have m14 := ne 14 n14
        have m15 := ne 15 n15
        apply Int32.toInt_inj.mp
        have t8 : (8 : Int32).toInt = 8 := rfl
        have t9 : (9 : Int32).toInt = 9 := rfl
        have t10 : (10 : Int32).toInt = 10 := rfl
        have t11 : (11 : Int32).toInt = 11 := rfl
        have t12 : (12 : Int32).toInt = 12 := rfl
        have t13 : (13 : Int32).toInt = 13 := rfl
        have t14 : (14 : Int32).toInt = 14 := rfl
        have t15 : (15 : Int32).toInt = 15 := rfl
        have t16 : (16 : Int32).toInt = 16 := rfl
        omega
      rw [if_pos e16]
      unfold m_XS_stateBits m_XS_stateBits_12 m_XS_stateBits_24 m_XS_stateBits_37 m_XS_stateBits_51 m_XS_stateBits_65 m_XR_register_145 m_XR_register_157 m_XR_register_170 m_XR_register_184 m_XR_register_198
      rw [g 12 (by decide), g 13 (by decide), g 14 (by decide), g 15 (by decide), g 16 (by decide)]
      repeat' split
      all_goals exact last _
    · have nz : ∀ k : Int32, k.toInt ≤ 16 → ¬ r = k := fun k hk e => by
        rw [Int32.le_iff_toInt_le, show (16 : Int32).toInt = 16 from rfl, e] at c16; omega
      rw [if_neg c16]
      unfold m_XT_register_20
      rw [if_neg (nz 8 (by decide)), if_neg (nz 9 (by decide)), if_neg (nz 10 (by decide)), if_neg (nz 11 (by decide)), if_neg (nz 12 (by decide)), if_neg (nz 13 (by decide)), if_neg (nz 14 (by decide)), if_neg (nz 15 (by decide)), if_neg (nz 16 (by decide))]
      exact last _
  · have c16 : r ≤ 16 := by
      rw [Int32.le_iff_toInt_le, show (8 : Int32).toInt = 8 from rfl] at c8
      rw [Int32.le_iff_toInt_le, show (16 : Int32).toInt = 16 from rfl]; omega
    rw [if_neg c8, if_pos c16, if_neg c8]
    obtain ⟨j, hj, rfl⟩ : ∃ j : Nat, j < 8 ∧ r = nI j := by
      rcases pk_ix r (n := 8) (by decide) with c | c | c
      · exact absurd c c0
      · exact absurd c c8
      · exact c
    rw [tc_gd_nI hj (by decide), tc_gd_nI hj (by decide), tc_T_a h 0 (by decide)]
    exact last _
theorem tp_video {b : Nat} {σ τ : tc_S} (h : tc_T b σ τ) (kind k : Int32) : tc_M (tp_Q b) (m_XT_video σ kind k) (m_XR_video τ kind k) := by
  have g := fun k hk => tc_T_g h k hk
  have last : ∀ v : Int32, tc_M (tp_Q b) (some (v, σ)) (some (v, τ)) := fun v => tc_M_some ⟨rfl, h⟩
  have neg : k < 0 ↔ ¬ 0 ≤ k := by
    rw [Int32.le_iff_toInt_le, Int32.lt_iff_toInt_lt]; omega
  unfold m_XT_video m_XR_video m_XT_video_58 m_XT_video_59 m_XR_video_56 m_XR_video_73 m_XR_video_89 m_XR_video_106 m_XR_video_185
  unfold m_XT_elementOrNone_a12 m_XT_elementOrNone_a12_16 m_XT_elementOrNone_a12_17 m_XT_elementOrNone_a13 m_XT_elementOrNone_a13_16 m_XT_elementOrNone_a13_17 m_XT_elementOrNone_a14 m_XT_elementOrNone_a14_16 m_XT_elementOrNone_a14_17
  by_cases c0 : k < 0
  · have nz : ∀ i : Int32, 0 ≤ i.toInt → ¬ k = i := fun i hi e => by
      rw [Int32.lt_iff_toInt_lt, show (0 : Int32).toInt = 0 from rfl, e] at c0; omega
    rw [if_neg (neg.mp c0)]
    unfold m_XT_portState
    rw [if_pos c0, if_pos c0, if_pos c0, if_pos c0, if_neg (nz 0 (by decide)), if_neg (nz 1 (by decide)), if_neg (nz 2 (by decide)), if_neg (nz 3 (by decide))]
    repeat' split
    all_goals exact last _
  · rw [if_pos (show 0 ≤ k by
      by_cases z : 0 ≤ k
      · exact z
      · exact absurd (neg.mpr z) c0), if_neg c0, if_neg c0, if_neg c0, if_neg c0]
    have ix : ∀ (n : Nat) {w : Int32}, w = nI n → n < 2 ^ 31 → ¬ w ≤ k → ∃ j : Nat, j < n ∧ k = nI j := fun n w hw hn hk => by
      rcases pk_ix k (n := n) hn with c | c | c
      · exact absurd c c0
      · rw [← hw] at c; exact absurd c hk
      · exact c
    refine tc_M_if Iff.rfl (fun _ _ => ?_) (fun _ _ => ?_)
    · refine tc_M_if Iff.rfl (fun _ _ => last _) (fun c _ => ?_)
      obtain ⟨j, hj, rfl⟩ := ix 512 rfl (by decide) c
      rw [tc_vw_c (by omega), tc_vw_r hj, tc_bs, tc_bs, h.1.2.2.1 2 (by decide), Nat.mod_eq_of_lt hj]
      exact last _
    refine tc_M_if Iff.rfl (fun _ _ => ?_) (fun _ _ => ?_)
    · by_cases c : 16 ≤ k
      · rw [if_pos c, if_pos c]; exact last _
      · obtain ⟨j, hj, rfl⟩ := ix 16 rfl (by decide) c
        rw [if_neg c, if_neg c, tc_gd_nI hj (by decide), tc_gd_nI hj (by decide), tc_T_a h 3 (by decide)]; exact last _
    refine tc_M_if Iff.rfl (fun _ _ => ?_) (fun _ _ => ?_)
    · by_cases c : 2 ≤ k
      · rw [if_pos c, if_pos c]; exact last _
      · obtain ⟨j, hj, rfl⟩ := ix 2 rfl (by decide) c
        rw [if_neg c, if_neg c, tc_gd_nI hj (by decide), tc_gd_nI hj (by decide), tc_T_a h 4 (by decide)]; exact last _
    refine tc_M_if Iff.rfl (fun _ _ => ?_) (fun _ _ => ?_)
    · by_cases c : 16 ≤ k
      · rw [if_pos c, if_pos c]; exact last _
      · obtain ⟨j, hj, rfl⟩ := ix 16 rfl (by decide) c
        rw [if_neg c, if_neg c, tc_gd_nI hj (by decide), tc_gd_nI hj (by decide), tc_T_a h 5 (by decide)]; exact last _
    refine tc_M_if Iff.rfl (fun _ _ => ?_) (fun _ _ => last _)
    unfold m_XT_portState m_XT_portState_63 m_XT_portState_79 m_XT_portState_95 m_XR_video_167 m_XR_video_180 m_XR_video_185
    rw [g 19 (by decide), g 20 (by decide), g 21 (by decide), g 30 (by decide), g 31 (by decide)]
    repeat' split
    all_goals exact last _
