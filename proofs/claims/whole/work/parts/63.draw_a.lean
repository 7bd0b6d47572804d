/-! drawing: numbers read off the reference's memories -/
theorem td_num {c : Nat} {x : Int32} (h : tc_B c x) (hc : c ≤ 2 ^ 32) : x = nI x.toBitVec.toNat ∧ x.toBitVec.toNat < c := by
  obtain ⟨n, hn, rfl⟩ := h
  have : (nI n).toBitVec.toNat = n := pk_tn (by omega)
  rw [this]
  exact ⟨rfl, hn⟩
def td_w (τ : tc_S) (n : Nat) : Nat := (256 * τ.2 2 (2 * (n % 512)) + τ.2 2 (2 * (n % 512) + 1)).toBitVec.toNat
def td_r (τ : tc_S) (k : Nat) : Nat := (τ.2 5 k).toBitVec.toNat
def td_v (τ : tc_S) (k : Nat) : Nat := (τ.2 4 k).toBitVec.toNat
theorem td_w_num {τ : tc_S} (hi : tc_inv τ) (n : Nat) : 256 * τ.2 2 (2 * (n % 512)) + τ.2 2 (2 * (n % 512) + 1) = nI (td_w τ n) ∧ td_w τ n < 65536 := td_num (tc_B_word (hi.2 2 _) (hi.2 2 _)) (by decide)
theorem td_wc {τ s : tc_S} (hi : tc_inv τ) (hs : s.2 2 = τ.2 2) {n : Nat} (hn : n < 2 ^ 29) : m_XP_vramWord s (nI n) = some (nI (td_w τ n), s) := by
  rw [tc_vw_c hn, hs, (td_w_num hi n).1]
theorem td_wr {τ s : tc_S} (hi : tc_inv τ) (hs : s.2 2 = τ.2 2) {n : Nat} (hn : n < 512) : m_XR_vramWord s (nI n) = some (nI (td_w τ n), s) := by
  have := (td_w_num hi n).1
  rw [Nat.mod_eq_of_lt hn] at this
  rw [tc_vw_r hn, hs, this]
theorem td_w_mod (τ : tc_S) (n : Nat) : td_w τ (n % 512) = td_w τ n := by
  unfold td_w
  rw [Nat.mod_mod]
theorem td_rg {τ s : tc_S} (hi : tc_inv τ) (hs : s.2 5 = τ.2 5) {k : Nat} {i : Int32} (hk : i.toNatClampNeg = k) : tc_ga s 5 i = nI (td_r τ k) ∧ td_r τ k < 256 := by
  unfold tc_ga
  rw [hs, hk]
  exact td_num (hi.2 5 k) (by decide)
theorem td_vg {τ s : tc_S} (hi : tc_inv τ) (hs : s.2 4 = τ.2 4) {k : Nat} {i : Int32} (hk : i.toNatClampNeg = k) : tc_ga s 4 i = nI (td_v τ k) ∧ td_v τ k < 65536 := by
  unfold tc_ga
  rw [hs, hk]
  exact td_num (hi.2 4 k) (by decide)
theorem td_sh {W : Nat} (hW : W < 65536) : ∀ i : Nat, i < 4 → (nI W >>> ((12 - (4 * nI i)) &&& 31)) &&& 15 = nI (W / 2 ^ (12 - 4 * i) % 16) := by
  have key : ∀ (s : Int32) (k : Nat), (s.toBitVec.smod 32).toNat = k → (nI W >>> s) &&& 15 = nI (W / 2 ^ k % 16) := by
    intro s k hk
    rw [tc_shr (by omega) s k hk]
    exact tc_msk (Nat.lt_of_le_of_lt (Nat.div_le_self _ _) (by omega)) 4 (by decide)
  intro i hi
  have : i = 0 ∨ i = 1 ∨ i = 2 ∨ i = 3 := by omega
  rcases this with rfl | rfl | rfl | rfl
  · exact key _ 12 (by decide)
  · exact key _ 8 (by decide)
  · exact key _ 4 (by decide)
  · exact key _ 0 (by decide)
/-- a dot of a pattern -/
def td_q (τ : tc_S) (nm i j : Nat) : Nat := td_w τ (nm % 128 * 4 + j) / 2 ^ (12 - 4 * i) % 16
def td_p (τ : tc_S) (nm c r : Nat) : Nat := if td_q τ nm (if nm / 2048 % 2 = 0 then c else 3 - c) (if nm / 4096 % 2 = 0 then r else 3 - r) = 0 then 0 else td_q τ nm (if nm / 2048 % 2 = 0 then c else 3 - c) (if nm / 4096 % 2 = 0 then r else 3 - r) + nm / 32768 % 2 * 16
theorem td_p_lt (τ : tc_S) (nm c r : Nat) : td_p τ nm c r < 32 ∧ td_p τ nm c r ≠ 16 := by
  unfold td_p
  have : ∀ i j, td_q τ nm i j < 16 := fun i j => Nat.mod_lt _ (by decide)
  have := this (if nm / 2048 % 2 = 0 then c else 3 - c) (if nm / 4096 % 2 = 0 then r else 3 - r)
  generalize td_q τ nm (if nm / 2048 % 2 = 0 then c else 3 - c) (if nm / 4096 % 2 = 0 then r else 3 - r) = q at *
  split <;> omega
theorem td_dot_c {τ s : tc_S} (hi : tc_inv τ) (hs : s.2 2 = τ.2 2) {nm c r : Nat} (hn : nm < 65536) (hc : c < 4) (hr : r < 4) : m_XD_patternDot s (nI nm) (nI c) (nI r) = some (nI (td_p τ nm c r), s) := by
  have b1 : (nI nm &&& 2048 = 0) ↔ nm / 2048 % 2 = 0 := tb_bit0 11 (by decide) rfl
  have b2 : (nI nm &&& 4096 = 0) ↔ nm / 4096 % 2 = 0 := tb_bit0 12 (by decide) rfl
  have b3 : (nI nm &&& 32768 = 0) ↔ nm / 32768 % 2 = 0 := tb_bit0 15 (by decide) rfl
  have last : ∀ i j : Nat, i < 4 → j < 4 → m_XD_patternDot_32 s (nI nm) (nI i) (nI j) = some (nI (if td_q τ nm i j = 0 then 0 else td_q τ nm i j + nm / 32768 % 2 * 16), s) := by
    intro i j hi4 hj4
    have ea : ((nI nm &&& 127) * 4) + nI j = nI (nm % 128 * 4 + j) := by
      rw [tc_msk (n := nm) (by omega) 7 (by decide), show nI (nm % 2 ^ 7) * 4 = nI (nm % 2 ^ 7 * 4) from pk_mul _ 4, nI_add]
    unfold m_XD_patternDot_32 m_XD_patternDot_83 m_XD_patternDot_85
    rw [ea, td_wc hi hs (by omega), tc_bs]
    have e2 := td_sh (td_w_num hi (nm % 128 * 4 + j)).2 i hi4
    simp only [e2, b3]
    have hq : td_w τ (nm % 128 * 4 + j) / 2 ^ (12 - 4 * i) % 16 = td_q τ nm i j := rfl
    rw [hq]
    have hq16 : td_q τ nm i j < 16 := Nat.mod_lt _ (by decide)
    have z : (nI (td_q τ nm i j) = 0) ↔ td_q τ nm i j = 0 := tc_eqN (a := 0) rfl (by decide) (by omega)
    simp only [z]
    by_cases c0 : td_q τ nm i j = 0
    · rw [if_pos c0, if_pos c0, c0]
    · rw [if_neg c0, if_neg c0]
      by_cases c1 : nm / 32768 % 2 = 0
      · rw [if_pos c1, c1, Nat.zero_mul, Nat.add_zero]
      · rw [if_neg c1, show nm / 32768 % 2 = 1 by omega]
        rw [show nI (td_q τ nm i j) + 16 = nI (td_q τ nm i j + 16) from nI_add _ 16]
  have s3 : ∀ k, k < 4 → (3 : Int32) - nI k = nI (3 - k) := fun k hk => pk_sub (a := 3) (by omega)
  unfold m_XD_patternDot m_XD_patternDot_15 td_p
  simp only [b1, b2, s3 c hc, s3 r hr]
  by_cases d1 : nm / 2048 % 2 = 0
  · by_cases d2 : nm / 4096 % 2 = 0
    · simp only [d1, d2, if_true]; exact last c r hc hr
    · simp only [d1, d2, if_true, if_false]; exact last c (3 - r) hc (by omega)
  · by_cases d2 : nm / 4096 % 2 = 0
    · simp only [d1, d2, if_true, if_false]; exact last (3 - c) r (by omega) hr
    · simp only [d1, d2, if_false]; exact last (3 - c) (3 - r) (by omega) (by omega)
theorem td_dot_r {τ s : tc_S} (hi : tc_inv τ) (hs : s.2 2 = τ.2 2) {nm c r : Nat} (hn : nm < 65536) (hc : c < 4) (hr : r < 4) : m_XR_patternPixel s (nI nm) (nI c) (nI r) = some (nI (td_p τ nm c r), s) := by
  have sh : ∀ (S : Int32) (k : Nat), (S.toBitVec.smod 32).toNat = k → (nI nm >>> S) &&& 1 = nI (nm / 2 ^ k % 2) := by
    intro S k hk
    rw [tc_shr (by omega) S k hk]
    exact tc_msk (Nat.lt_of_le_of_lt (Nat.div_le_self _ _) (by omega)) 1 (by decide)
  have q1 : ∀ y : Nat, (nI (y % 2) = 1) ↔ ¬ y % 2 = 0 := fun y => by
    rw [tc_eqN (x := 1) (a := 1) rfl (by decide) (by omega)]; omega
  have b1 : ((nI nm >>> ((11 : Int32) &&& 31)) &&& 1 = 1) ↔ ¬ nm / 2048 % 2 = 0 := by rw [sh _ 11 (by decide)]; exact q1 _
  have b2 : ((nI nm >>> ((12 : Int32) &&& 31)) &&& 1 = 1) ↔ ¬ nm / 4096 % 2 = 0 := by rw [sh _ 12 (by decide)]; exact q1 _
  have last : ∀ i j : Nat, i < 4 → j < 4 → m_XR_patternPixel_36 s (nI nm) (nI i) (nI j) = some (nI (if td_q τ nm i j = 0 then 0 else td_q τ nm i j + nm / 32768 % 2 * 16), s) := by
    intro i j hi4 hj4
    have ea : (4 * (nI nm &&& 127)) + nI j = nI (nm % 128 * 4 + j) := by
      rw [tc_msk (n := nm) (by omega) 7 (by decide), show 4 * nI (nm % 2 ^ 7) = nI (4 * (nm % 2 ^ 7)) from pk_mul 4 _, nI_add, Nat.mul_comm]
    unfold m_XR_patternPixel_36 m_XR_patternPixel_85
    rw [ea, td_wr hi hs (by omega), tc_bs]
    have e2 := td_sh (td_w_num hi (nm % 128 * 4 + j)).2 i hi4
    simp only [e2]
    have hq : td_w τ (nm % 128 * 4 + j) / 2 ^ (12 - 4 * i) % 16 = td_q τ nm i j := rfl
    rw [hq, sh _ 15 (by decide), show nI (nm / 2 ^ 15 % 2) * 16 = nI (nm / 32768 % 2 * 16) from pk_mul _ 16, nI_add]
    have hq16 : td_q τ nm i j < 16 := Nat.mod_lt _ (by decide)
    have z : (nI (td_q τ nm i j) = 0) ↔ td_q τ nm i j = 0 := tc_eqN (a := 0) rfl (by decide) (by omega)
    simp only [z]
    by_cases c0 : td_q τ nm i j = 0
    · rw [if_pos c0, if_pos c0]; rfl
    · rw [if_neg c0, if_neg c0]
  have s3 : ∀ k, k < 4 → (3 : Int32) - nI k = nI (3 - k) := fun k hk => pk_sub (a := 3) (by omega)
  unfold m_XR_patternPixel m_XR_patternPixel_17 td_p
  simp only [b1, b2, s3 c hc, s3 r hr]
  by_cases d1 : nm / 2048 % 2 = 0
  · by_cases d2 : nm / 4096 % 2 = 0
    · simp only [d1, d2, not_true, if_true, if_false]; exact last c r hc hr
    · simp only [d1, d2, not_true, not_false_eq_true, if_true, if_false]; exact last c (3 - r) hc (by omega)
  · by_cases d2 : nm / 4096 % 2 = 0
    · simp only [d1, d2, not_true, not_false_eq_true, if_true, if_false]; exact last (3 - c) r (by omega) hr
    · simp only [d1, d2, not_false_eq_true, if_true, if_false]; exact last (3 - c) (3 - r) (by omega) (by omega)
/-! planes -/
def td_pp (τ : tc_S) (bs X Y : Nat) : Nat := td_p τ (td_w τ (bs % 16 * 32 + Y / 4 * 8 + X / 4)) (X % 4) (Y % 4)
def td_pl (τ : tc_S) (y wh x : Nat) : Nat := if wh = 0 ∧ x / 4 < td_r τ 3 % 8 then td_pp τ (td_r τ (2 + 2 * wh)) x y else td_pp τ (td_r τ (2 + 2 * wh)) ((x + 65536 - td_w τ (td_r τ 13 % 32 * 16 + wh)) % 32) ((y + td_v τ wh) % 16)
theorem td_pl_lt (τ : tc_S) (y wh x : Nat) : td_pl τ y wh x < 32 ∧ td_pl τ y wh x ≠ 16 := by
  unfold td_pl td_pp
  split <;> exact td_p_lt _ _ _ _
theorem td_and31 {x A : Nat} (hx : x < 16) (hA : A < 65536) : (nI x - nI A) &&& 31 = nI ((x + 65536 - A) % 32) := by
  have t1 : (nI x - nI A).toInt = (x : Int) - A := pk_sub_toInt (by omega) (by omega)
  rw [pk_and _ 5 (by decide)]
  have h4 := ti_nat (nI x - nI A)
  have h6 := (nI x - nI A).toBitVec.isLt
  rw [t1] at h4
  generalize (nI x - nI A).toBitVec.toNat = N at *
  simp only [Int.bmod_def] at h4
  congr 1
  split at h4 <;> omega
theorem td_pp_r {τ s : tc_S} (hi : tc_inv τ) (hs : s.2 2 = τ.2 2) {bs X Y : Nat} (hb : bs < 256) (hX : X < 32) (hY : Y < 16) : m_XR_planePixel s (nI bs) (nI X) (nI Y) = some (nI (td_pp τ bs X Y), s) := by
  have e1 : (((nI bs &&& 15) * 32) + ((nI Y / 4) * 8)) + (nI X / 4) = nI (bs % 16 * 32 + Y / 4 * 8 + X / 4) := by
    rw [tc_msk (n := bs) (by omega) 4 (by decide), tc_div (n := Y) (D := 4) (d := 4) rfl (by omega) (by decide) (by decide), tc_div (n := X) (D := 4) (d := 4) rfl (by omega) (by decide) (by decide),
      show nI (bs % 2 ^ 4) * 32 = nI (bs % 2 ^ 4 * 32) from pk_mul _ 32, show nI (Y / 4) * 8 = nI (Y / 4 * 8) from pk_mul _ 8, nI_add, nI_add]
  have e2 : nI X - nI X / 4 * 4 = nI (X % 4) := tc_mod (D := 4) (d := 4) rfl (by omega) (by decide) (by decide)
  have e3 : nI Y - nI Y / 4 * 4 = nI (Y % 4) := tc_mod (D := 4) (d := 4) rfl (by omega) (by decide) (by decide)
  unfold m_XR_planePixel
  rw [e1, td_wr hi hs (by omega), tc_bs]
  simp only [e2, e3]
  rw [td_dot_r hi hs (td_w_num hi _).2 (by omega) (by omega), tc_bs]
  rfl
theorem td_pl_r {τ s : tc_S} (hi : tc_inv τ) (h2 : s.2 2 = τ.2 2) (h4 : s.2 4 = τ.2 4) (h5 : s.2 5 = τ.2 5) {y wh x : Nat} (hy : y < 8) (hg : tc_gf s 27 = nI y) (hw : wh < 2) (hx : x < 16) : m_XR_plane s (nI wh) (nI x) = some (nI (td_pl τ y wh x), s) := by
  have r2 := td_rg (s := s) hi h5 (show (2 : Int32).toNatClampNeg = 2 from rfl)
  have r4 := td_rg (s := s) hi h5 (show (4 : Int32).toNatClampNeg = 4 from rfl)
  have r3 := td_rg (s := s) hi h5 (show (3 : Int32).toNatClampNeg = 3 from rfl)
  have r13 := td_rg (s := s) hi h5 (show (13 : Int32).toNatClampNeg = 13 from rfl)
  have e3 : nI (td_r τ 3) &&& 7 = nI (td_r τ 3 % 8) := tc_msk (by omega) 3 (by decide)
  have ex : nI x / 4 = nI (x / 4) := tc_div (D := 4) (d := 4) rfl (by omega) (by decide) (by decide)
  have last : ∀ {wh : Nat} {k : Nat}, wh < 2 → k < 256 → m_XR_plane_50 s (nI wh) (nI x) (nI k) = some (nI (td_pp τ k ((x + 65536 - td_w τ (td_r τ 13 % 32 * 16 + wh)) % 32) ((y + td_v τ wh) % 16)), s) := by
    intro wh k hw hk
    have vg := td_vg (s := s) hi h4 (tc_clamp (n := wh) (by omega))
    have ea : ((tc_ga s 5 13 &&& 31) * 16) + nI wh = nI (td_r τ 13 % 32 * 16 + wh) := by
      rw [r13.1, tc_msk (n := td_r τ 13) (by omega) 5 (by decide), show nI (td_r τ 13 % 2 ^ 5) * 16 = nI (td_r τ 13 % 2 ^ 5 * 16) from pk_mul _ 16, nI_add]
    have g13 : ∀ (z : Option (Int32 × tc_S)), tc_gd 13 16 z = z := fun z => rfl
    unfold m_XR_plane_50
    rw [g13, ea, td_wr hi h2 (by omega), tc_bs]
    simp only [hg, vg.1]
    rw [tc_gd_nI hw (by decide), td_and31 hx (td_w_num hi _).2, nI_add, tc_msk (n := y + td_v τ wh) (by omega) 4 (by decide), td_pp_r hi h2 hk (by omega) (by omega), tc_bs]
  have g2 : ∀ (z : Option (Int32 × tc_S)), tc_gd 2 16 z = z := fun z => rfl
  have g3 : ∀ (z : Option (Int32 × tc_S)), tc_gd 3 16 z = z := fun z => rfl
  have g4 : ∀ (z : Option (Int32 × tc_S)), tc_gd 4 16 z = z := fun z => rfl
  unfold m_XR_plane m_XR_plane_19
  rw [g2, g3, g3, g4, r2.1, r3.1, r4.1, e3, ex, hg]
  have hwc : wh = 0 ∨ wh = 1 := by omega
  rcases hwc with rfl | rfl
  · have n0 : nI 0 = (0 : Int32) := rfl
    rw [if_pos n0, if_pos n0]
    unfold td_pl
    by_cases c : td_r τ 3 % 8 ≤ x / 4
    · rw [if_pos (nI_le c (by omega)), if_neg (by omega)]
      exact last (by decide) r2.2
    · rw [if_neg (nI_ge (by omega) (by omega)), if_pos ⟨rfl, by omega⟩, td_pp_r hi h2 r2.2 (by omega) (by omega), tc_bs]
  · have n1 : ¬ nI 1 = (0 : Int32) := by decide
    rw [if_neg n1, if_neg n1]
    unfold td_pl
    rw [if_neg (by omega)]
    exact last (by decide) r4.2
