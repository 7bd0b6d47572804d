theorem tb_and (a c : Nat) : nI a &&& nI c = nI (a &&& c) := by
  apply Int32.toBitVec_inj.mp
  show BitVec.ofNat 32 a &&& BitVec.ofNat 32 c = BitVec.ofNat 32 (a &&& c)
  simp
theorem tb_or (a c : Nat) : nI a ||| nI c = nI (a ||| c) := by
  apply Int32.toBitVec_inj.mp
  show BitVec.ofNat 32 a ||| BitVec.ofNat 32 c = BitVec.ofNat 32 (a ||| c)
  simp
theorem tb_xor (a c : Nat) : nI a ^^^ nI c = nI (a ^^^ c) := by
  apply Int32.toBitVec_inj.mp
  show BitVec.ofNat 32 a ^^^ BitVec.ofNat 32 c = BitVec.ofNat 32 (a ^^^ c)
  simp
theorem tb_all {p : Nat → Prop} (h : ∀ a, a < 256 → ∀ c, c < 256 → p (256 * a + c)) {n : Nat} (hn : n < 65536) : p n := by
  have := h (n / 256) (by omega) (n % 256) (by omega)
  rwa [show 256 * (n / 256) + n % 256 = n by omega] at this
theorem tb_xor1 {n : Nat} (hn : n < 65536) : n ^^^ 1 = if n % 2 = 0 then n + 1 else n - 1 := tb_all (p := fun n => n ^^^ 1 = if n % 2 = 0 then n + 1 else n - 1) (by decide +kernel) hn
theorem tc_sa_comm (σ : tc_S) (a : Nat) (i j v u : Int32) (h : i.toNatClampNeg ≠ j.toNatClampNeg) : tc_sa (tc_sa σ a i v) a j u = tc_sa (tc_sa σ a j u) a i v := by
  unfold tc_sa
  refine Prod.ext rfl ?_
  funext x y
  by_cases hx : x = a
  · subst hx
    simp only [va_up, upd, if_true]
    by_cases h1 : y = j.toNatClampNeg
    · subst h1; simp [Ne.symm h]
    · by_cases h2 : y = i.toNatClampNeg
      · subst h2; simp [h]
      · simp [h1, h2]
  · simp [va_up, hx]
/-! address, length, ends of moves -/
def tc_gw (σ : tc_S) : tc_S := tc_sf σ 19 ((tc_gf σ 19 + tc_ga σ 5 14) &&& 65535)
theorem tc_grow_c (σ : tc_S) : m_XP_growAddress σ = some (tc_gw σ) := rfl
theorem tc_grow_r (σ : tc_S) : m_XR_grow σ = some (tc_gw σ) := rfl
theorem tc_T_gw {b : Nat} {σ τ : tc_S} (h : tc_T b σ τ) : tc_T b (tc_gw σ) (tc_gw τ) := by
  unfold tc_gw
  rw [tc_T_g h 19 (by decide), tc_T_a h 5 (by decide)]
  exact tc_T_sf h 19 (by decide) (by decide) (by decide) (by decide) (tc_B_16 _)
def tc_em (σ : tc_S) : tc_S := tc_sa (tc_sa σ 5 11 0) 5 12 0
theorem tc_em_c (σ : tc_S) : m_XP_endMove σ = some (tc_em σ) := rfl
theorem tc_em_r (σ : tc_S) : m_XR_endMove σ = some (tc_em σ) := rfl
theorem tc_T_em {b : Nat} {σ τ : tc_S} (h : tc_T b σ τ) : tc_T b (tc_em σ) (tc_em τ) := tc_T_sa (tc_T_sa h 5 11 (by decide) (tc_B_0 (by decide))) 5 12 (by decide) (tc_B_0 (by decide))
def tc_hf (σ : tc_S) : Int32 := ((tc_ga σ 5 10) &&& 127) * 256 + tc_ga σ 5 9
theorem tc_hf_c (σ : tc_S) : m_XP_halfSource σ = some (tc_hf σ, σ) := rfl
theorem tc_hf_r (σ : tc_S) : m_XR_half σ = some (tc_hf σ, σ) := rfl
theorem tc_T_hf {b : Nat} {σ τ : tc_S} (h : tc_T b σ τ) : tc_hf σ = tc_hf τ ∧ tc_B 32768 (tc_hf τ) := by
  unfold tc_hf
  rw [tc_T_a h 5 (by decide), tc_T_a h 5 (by decide)]
  refine ⟨rfl, ?_⟩
  obtain ⟨x, hx, e1⟩ := tc_B_and (tc_ga τ 5 10) (m := 127) 7 (by decide)
  obtain ⟨y, hy, e2⟩ := tc_T_Ba h 5 9
  have hy : y < 256 := hy
  rw [e1, e2]
  refine ⟨x * 256 + y, by omega, ?_⟩
  rw [← nI_add, ← pk_mul]; rfl
theorem tc_len {b : Nat} {σ τ : tc_S} (h : tc_T b σ τ) : ∃ n, 0 < n ∧ n ≤ 512 ∧ m_XP_moveLength σ = some (nI n, σ) ∧ m_XR_length τ = some (nI n, τ) := by
  obtain ⟨x, hx, e1⟩ := tc_T_Ba h 5 12
  obtain ⟨y, hy, e2⟩ := tc_T_Ba h 5 11
  have hx : x < 256 := hx
  have hy : y < 256 := hy
  have e3 : (nI x * 256 + nI y) &&& 511 = nI ((256 * x + y) % 512) := by
    rw [show nI x * 256 = nI (x * 256) from pk_mul x 256, nI_add, tc_msk (by omega) 9 (by decide)]
    rw [show x * 256 + y = 256 * x + y by omega]
  have e4 : (256 * nI x + nI y) - (256 * nI x + nI y) / 512 * 512 = nI ((256 * x + y) % 512) := by
    rw [show 256 * nI x = nI (256 * x) from pk_mul 256 x, nI_add]
    exact tc_mod (D := 512) (d := 512) rfl (by omega) (by decide) (by decide)
  have c1 : m_XP_moveLength σ = (if (tc_ga σ 5 12 * 256 + tc_ga σ 5 11) &&& 511 = 0 then some (512, σ) else some ((tc_ga σ 5 12 * 256 + tc_ga σ 5 11) &&& 511, σ)) := rfl
  have c2 : m_XR_length τ = (if (256 * tc_ga τ 5 12 + tc_ga τ 5 11) - (256 * tc_ga τ 5 12 + tc_ga τ 5 11) / 512 * 512 = 0 then some (512, τ) else some ((256 * tc_ga τ 5 12 + tc_ga τ 5 11) - (256 * tc_ga τ 5 12 + tc_ga τ 5 11) / 512 * 512, τ)) := rfl
  rw [c1, c2, tc_T_a h 5 (by decide), tc_T_a h 5 (by decide), e1, e2, e3, e4]
  have z : (nI ((256 * x + y) % 512) = 0) ↔ (256 * x + y) % 512 = 0 := tc_eqN (a := 0) rfl (by decide) (by omega)
  by_cases c : (256 * x + y) % 512 = 0
  · rw [if_pos (z.mpr c), if_pos (z.mpr c)]
    exact ⟨512, by decide, by decide, rfl, rfl⟩
  · rw [if_neg (fun k => c (z.mp k)), if_neg (fun k => c (z.mp k))]
    exact ⟨(256 * x + y) % 512, by omega, by omega, rfl, rfl⟩
/-! a word of VRAM -/
theorem tc_vw_c {σ : tc_S} {n : Nat} (hn : n < 2 ^ 29) : m_XP_vramWord σ (nI n) = some (256 * σ.2 2 (2 * (n % 512)) + σ.2 2 (2 * (n % 512) + 1), σ) := by
  have e : (2 * nI n) &&& 1023 = nI (2 * (n % 512)) := by
    rw [show 2 * nI n = nI (2 * n) from pk_mul 2 n, tc_msk (by omega) 10 (by decide)]
    congr 1; omega
  have e2 : nI (2 * (n % 512)) + 1 = nI (2 * (n % 512) + 1) := nI_1 _
  unfold m_XP_vramWord
  rw [e, e2, tc_gd_nI (by omega) (by decide), tc_gd_nI (by omega) (by decide)]
  unfold tc_ga
  rw [tc_clamp (by omega), tc_clamp (by omega), Int32.mul_comm]
theorem tc_vw_r {σ : tc_S} {n : Nat} (hn : n < 512) : m_XR_vramWord σ (nI n) = some (256 * σ.2 2 (2 * n) + σ.2 2 (2 * n + 1), σ) := by
  have e : 2 * nI n = nI (2 * n) := pk_mul 2 n
  have e2 : nI (2 * n) + 1 = nI (2 * n + 1) := nI_1 _
  unfold m_XR_vramWord
  rw [e, e2, tc_gd_nI (by omega) (by decide), tc_gd_nI (by omega) (by decide)]
  unfold tc_ga
  rw [tc_clamp (by omega), tc_clamp (by omega)]
/-! a word is stored -/
theorem tc_put {b : Nat} {σ τ : tc_S} {w : Int32} (h : tc_T b σ τ) (hw : tc_B 65536 w) : tc_M (tc_T b) (m_XP_storeWord σ w) (m_XR_put τ w) := by
  obtain ⟨n, hn, en⟩ := tc_T_B h 19 (by decide) (by decide) (by decide)
  have hn : n < 65536 := hn
  obtain ⟨x, hx, rfl⟩ := hw
  have g19 := tc_T_g h 19 (by decide)
  have g20 := tc_T_g h 20 (by decide)
  have w8 : nI x >>> ((8 : Int32) &&& 31) = nI (x / 256) := tc_shr (by omega) _ 8 (by decide)
  have wl : nI x &&& 255 = nI (x % 256) := tc_msk (by omega) 8 (by decide)
  have fin : ∀ {σ' τ' : tc_S}, tc_T b σ' τ' → tc_M (tc_T b) (m_XP_storeWord_113 σ') (m_XR_put_132 τ') := by
    intro σ' τ' h'
    exact ⟨_, _, rfl, rfl, tc_T_gw h'⟩
  unfold m_XP_storeWord m_XR_put
  simp only [tc_gf_sa, g20, g19, en, w8, wl]
  have a1 : nI n &&& 1023 = nI (n % 1024) := tc_msk (by omega) 10 (by decide)
  have a2 : (nI n ^^^ 1) &&& 1023 = nI ((n ^^^ 1) % 1024) := by
    rw [show nI n ^^^ 1 = nI (n ^^^ 1) from tb_xor n 1]
    have := tb_xor1 hn
    exact tc_msk (by rw [this]; split <;> omega) 10 (by decide)
  have a3 : nI n / 2 = nI (n / 2) := tc_div (D := 2) (d := 2) rfl (by omega) (by decide) (by decide)
  have a4 : nI n - nI (n / 2) * 2 = nI (n % 2) := by rw [← a3]; exact tc_mod (D := 2) (d := 2) rfl (by omega) (by decide) (by decide)
  have k2 : nI n >>> ((1 : Int32) &&& 31) = nI (n / 2) := tc_shr (by omega) _ 1 (by decide)
  rw [a1, a2, a3, a4, k2]
  by_cases c1 : tc_gf τ 20 &&& 15 = 1
  · rw [if_pos c1, if_pos c1, tc_gd_nI (by omega) (by decide), tc_gd_nI (by omega) (by decide)]
    unfold m_XR_put_35 m_XR_put_65 m_XR_put_96
    have a5 : nI (n / 2) - nI (n / 2) / 512 * 512 = nI (n / 2 % 512) := tc_mod (D := 512) (d := 512) rfl (by omega) (by decide) (by decide)
    have a6 : nI (n / 2 % 512) * 2 = nI (n / 2 % 512 * 2) := pk_mul _ 2
    have a7 : nI (n / 2 % 512 * 2) + 1 = nI (n / 2 % 512 * 2 + 1) := nI_1 _
    rw [a5, a6, a7, w8, wl, tb_xor1 hn]
    by_cases p : n % 2 = 0
    · rw [if_pos p, if_neg (by rw [p]; decide), if_pos rfl, tc_gd_nI (by omega) (by decide), if_pos rfl, tc_gd_nI (by omega) (by decide)]
      rw [show n % 1024 = n / 2 % 512 * 2 by omega, show (n + 1) % 1024 = n / 2 % 512 * 2 + 1 by omega]
      exact fin (tc_T_sa (tc_T_sa h 2 _ (by decide) ⟨_, (by show x / 256 < 256; omega), rfl⟩) 2 _ (by decide) ⟨_, (by show x % 256 < 256; omega), rfl⟩)
    · have p1 : n % 2 = 1 := by omega
      rw [if_neg p, p1, if_pos (by decide), if_neg (by decide), tc_gd_nI (by omega) (by decide), if_neg (by decide), tc_gd_nI (by omega) (by decide)]
      rw [show n % 1024 = n / 2 % 512 * 2 + 1 by omega, show (n - 1) % 1024 = n / 2 % 512 * 2 by omega]
      rw [tc_sa_comm σ 2 _ _ _ _ (by rw [tc_clamp (by omega), tc_clamp (by omega)]; omega)]
      exact fin (tc_T_sa (tc_T_sa h 2 _ (by decide) ⟨_, (by show x % 256 < 256; omega), rfl⟩) 2 _ (by decide) ⟨_, (by show x / 256 < 256; omega), rfl⟩)
  · rw [if_neg c1, if_neg c1]
    have b1 : nI (n / 2) &&& 15 = nI (n / 2 % 16) := tc_msk (by omega) 4 (by decide)
    have b2 : nI (n / 2) &&& 1 = nI (n / 2 % 2) := tc_msk (by omega) 1 (by decide)
    have b3 : nI (n / 2) - nI (n / 2) / 16 * 16 = nI (n / 2 % 16) := tc_mod (D := 16) (d := 16) rfl (by omega) (by decide) (by decide)
    have b4 : nI (n / 2) - nI (n / 2) / 2 * 2 = nI (n / 2 % 2) := tc_mod (D := 2) (d := 2) rfl (by omega) (by decide) (by decide)
    rw [b1, b2, b3, b4, tc_gd_nI (by omega) (by decide), tc_gd_nI (by omega) (by decide), tc_gd_nI (by omega) (by decide), tc_gd_nI (by omega) (by decide)]
    have u3 : tc_M (tc_T b) (m_XP_storeWord_113 (tc_sa σ 3 (nI (n / 2 % 16)) (nI x))) (m_XR_put_132 (tc_sa τ 3 (nI (n / 2 % 16)) (nI x))) := fin (tc_T_sa h 3 _ (by decide) ⟨x, hx, rfl⟩)
    have u5 : tc_M (tc_T b) (m_XP_storeWord_113 (tc_sa σ 4 (nI (n / 2 % 2)) (nI x))) (m_XR_put_132 (tc_sa τ 4 (nI (n / 2 % 2)) (nI x))) := fin (tc_T_sa h 4 _ (by decide) ⟨x, hx, rfl⟩)
    have u0 := fin h
    by_cases c2 : tc_gf τ 20 &&& 15 = 2
    · rw [if_pos c2, if_neg (by rw [c2]; decide), if_neg (by rw [c2]; decide)]; exact u0
    · rw [if_neg c2]
      by_cases c3 : tc_gf τ 20 &&& 15 = 3
      · rw [if_pos c3, if_pos c3]; exact u3
      · rw [if_neg c3, if_neg c3]
        by_cases c4 : tc_gf τ 20 &&& 15 = 4
        · rw [if_pos c4, if_neg (by rw [c4]; decide)]; exact u0
        · rw [if_neg c4]
          by_cases c5 : tc_gf τ 20 &&& 15 = 5
          · rw [if_pos c5, if_pos c5]; exact u5
          · rw [if_neg c5, if_neg c5]; exact u0
