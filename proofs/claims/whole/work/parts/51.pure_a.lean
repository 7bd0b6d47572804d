theorem tc_B_any (x : Int32) : tc_B 4294967296 x := ⟨x.toBitVec.toNat, x.toBitVec.isLt, by
  apply Int32.toBitVec_inj.mp
  show x.toBitVec = BitVec.ofNat 32 _
  simp⟩
theorem tc_le {a n : Nat} {x : Int32} (hx : x = nI a) (ha : a < 2 ^ 31) (hn : n < 2 ^ 31) : x ≤ nI n ↔ a ≤ n := by subst hx; exact nI_leI ha hn
theorem tc_mod {n d : Nat} {D : Int32} (hD : D = nI d) (hn : n < 2 ^ 31) (h0 : 0 < d) (hd : d < 2 ^ 31) : nI n - nI n / D * D = nI (n % d) := by subst hD; exact pk_rem hn h0 hd
theorem tc_div {n d : Nat} {D : Int32} (hD : D = nI d) (hn : n < 2 ^ 31) (h0 : 0 < d) (hd : d < 2 ^ 31) : nI n / D = nI (n / d) := by subst hD; exact pk_div hn h0 hd
theorem tc_msk {n : Nat} (hn : n < 2 ^ 31) {m : Int32} (k : Nat) (hm : m.toBitVec.toNat = 2 ^ k - 1) : nI n &&& m = nI (n % 2 ^ k) := pk_andN (by omega) k hm
theorem tc_eqN {a n : Nat} {x : Int32} (hx : x = nI a) (ha : a < 2 ^ 31) (hn : n < 2 ^ 31) : nI n = x ↔ n = a := by subst hx; exact nI_eq hn ha
theorem tc_shr {n : Nat} (hn : n < 2 ^ 31) (s : Int32) (k : Nat) (hs : (s.toBitVec.smod 32).toNat = k) : nI n >>> s = nI (n / 2 ^ k) := pk_shrN hn s k hs
/-! stands, isOut -/
def tc_so (σ : tc_S) : Int32 := if tc_gf σ 15 = 0 then (if tc_gf σ 16 = 0 then 0 else 1) else 1
theorem tc_stands (σ : tc_S) : m_XS_stands σ = some (tc_so σ, σ) := by
  unfold m_XS_stands tc_so m_XS_stands_14 m_XS_stands_19
  by_cases h1 : tc_gf σ 15 = 0
  · by_cases h2 : tc_gf σ 16 = 0
    · rw [if_pos h1, if_pos h2, if_pos h1, if_pos h2]; rfl
    · rw [if_pos h1, if_neg h2, if_pos h1, if_neg h2]; rfl
  · rw [if_neg h1, if_neg h1]; rfl
theorem tc_isOut (σ : tc_S) : m_XR_isOut σ = some (tc_so σ, σ) := tc_stands σ
theorem tc_so_eq {b : Nat} {σ τ : tc_S} (h : tc_T b σ τ) : tc_so σ = tc_so τ := by
  unfold tc_so; rw [tc_T_g h 15 (by decide), tc_T_g h 16 (by decide)]
/-! quiet reading -/
theorem tc_clamp {n : Nat} (h : n < 2 ^ 31) : (nI n).toNatClampNeg = n := nI_clamp h
theorem tc_B_word {a c : Int32} (ha : tc_B 256 a) (hc : tc_B 256 c) : tc_B 65536 (256 * a + c) := by
  obtain ⟨x, h1, rfl⟩ := ha
  obtain ⟨y, h2, rfl⟩ := hc
  refine ⟨256 * x + y, by omega, ?_⟩
  rw [← nI_add, ← pk_mul]; rfl
theorem tc_q {b : Nat} {σ τ : tc_S} (h : tc_T b σ τ) {n : Nat} (hn : n < 65536) : ∃ v, tc_B 65536 v ∧ m_XU_readQuietly σ (nI n) = some (v, σ) ∧ m_XR_quiet τ (nI n) = some (v, τ) := by
  have e1 : (nI n &&& 1 = 0) ↔ n % 2 = 0 := by
    rw [tc_msk (by omega) 1 (by decide)]; exact tc_eqN (a := 0) rfl (by decide) (by omega)
  have e2 : (0 : Int32) ≤ nI n ↔ True := ⟨fun _ => trivial, fun _ => nI_pos' (by omega)⟩
  have e3 : (512 : Int32) ≤ nI n ↔ 512 ≤ n := tc_le (a := 512) rfl (by decide) (by omega)
  have e4 : (640 : Int32) ≤ nI n ↔ 640 ≤ n := tc_le (a := 640) rfl (by decide) (by omega)
  have e5 : nI n < (768 : Int32) ↔ n < 768 := nI_ltI (b := 768) (by omega) (by decide)
  have e6 : (896 : Int32) ≤ nI n ↔ 896 ≤ n := tc_le (a := 896) rfl (by decide) (by omega)
  have f1 : nI n < (0 : Int32) ↔ False := ⟨fun k => absurd k (nI_pos (by omega)), False.elim⟩
  have f2 : (895 : Int32) < nI n ↔ 895 < n := nI_ltI (a := 895) (by decide) (by omega)
  have f3 : (nI n - nI n / 2 * 2 = 1) ↔ n % 2 = 1 := by
    rw [tc_mod (D := 2) (n := n) (d := 2) rfl (by omega) (by decide) (by decide)]; exact tc_eqN (a := 1) rfl (by decide) (by omega)
  unfold m_XU_readQuietly m_XR_quiet m_XU_readQuietly_10 m_XU_readQuietly_90 m_XR_quiet_18 m_XR_quiet_94 m_XR_quiet_112
  simp only [e1, e2, e3, e4, e5, e6, f1, f2, f3, if_true, if_false]
  by_cases p : n % 2 = 0
  · have p' : ¬ n % 2 = 1 := by omega
    rw [if_pos p]
    by_cases c1 : 512 ≤ n
    · rw [if_pos c1]
      by_cases c2 : 640 ≤ n
      · rw [if_pos c2]
        by_cases c3 : n < 768
        · rw [if_pos c3, if_neg (by omega), if_neg p', if_pos c1, if_pos c2, if_pos c3]
          exact ⟨0, tc_B_0 (by decide), rfl, rfl⟩
        · rw [if_neg c3]
          by_cases c4 : 896 ≤ n
          · rw [if_pos c4, if_pos (by omega)]
            exact ⟨0, tc_B_0 (by decide), rfl, rfl⟩
          · rw [if_neg c4, if_neg (by omega), if_neg p', if_pos c1, if_pos c2, if_neg c3, tc_stands, tc_isOut, tc_so_eq h]
            show ∃ v, tc_B 65536 v ∧ (if tc_so τ = 0 then _ else _) = _ ∧ (if tc_so τ = 0 then _ else _) = _
            by_cases c5 : tc_so τ = 0
            · rw [if_pos c5, if_pos c5]
              exact ⟨0, tc_B_0 (by decide), rfl, rfl⟩
            · rw [if_neg c5, if_neg c5]
              have hs : nI n - 768 = nI (n - 768) := pk_sub (b := 768) (by omega)
              rw [hs, tc_gd_nI (by omega) (by decide), tc_gd_nI (by omega) (by decide)]
              have hb := tc_T_Ba h 1 (nI (n - 768))
              refine ⟨tc_ga τ 1 (nI (n - 768)) * 257, ?_, ?_, ?_⟩
              · obtain ⟨x, h1, h2⟩ := hb
                have h1 : x < 256 := h1
                rw [h2]
                exact ⟨x * 257, by omega, pk_mul x 257⟩
              · rw [tc_T_a h 1 (by decide)]
              · rw [Int32.mul_comm]
      · rw [if_neg c2, if_neg (by omega), if_neg p', if_pos c1, if_neg c2]
        have hs : nI n - 512 = nI (n - 512) := pk_sub (b := 512) (by omega)
        have hs2 : nI n - 511 = nI (n - 511) := pk_sub (b := 511) (by omega)
        have hs3 : nI (n - 512) >>> ((1 : Int32) &&& 31) = nI ((n - 512) / 2) := tc_shr (by omega) _ 1 (by decide)
        rw [hs, hs2, hs3, tc_gd_nI (by omega) (by decide), tc_gd_nI (by omega) (by decide), tc_gd_nI (by omega) (by decide)]
        refine ⟨_, ?_, rfl, ?_⟩
        · unfold tc_ga
          rw [tc_clamp (by omega), h.1.2.2.2.2 _ (by omega)]
          exact tc_B_word (h.2.1.2 8 _) (h.2.1.2 8 _)
        · unfold tc_ga
          rw [tc_clamp (by omega), tc_clamp (by omega), tc_clamp (by omega), h.1.2.2.2.2 _ (by omega)]
          rw [show 2 * ((n - 512) / 2) = n - 512 by omega, show n - 512 + 1 = n - 511 by omega]
    · rw [if_neg c1, if_neg (by omega), if_neg p', if_neg c1]
      have hs3 : nI n >>> ((1 : Int32) &&& 31) = nI (n / 2) := tc_shr (by omega) _ 1 (by decide)
      have hs2 : nI n + 1 = nI (n + 1) := nI_1 n
      rw [hs3, hs2, tc_gd_nI (by omega) (by decide), tc_gd_nI (by omega) (by decide), tc_gd_nI (by omega) (by decide)]
      refine ⟨_, ?_, rfl, ?_⟩
      · unfold tc_ga
        rw [tc_clamp (by omega), h.1.2.2.2.1 _ (by omega)]
        exact tc_B_word (h.2.1.2 7 _) (h.2.1.2 7 _)
      · unfold tc_ga
        rw [tc_clamp (by omega), tc_clamp (by omega), tc_clamp (by omega), h.1.2.2.2.1 _ (by omega)]
        rw [show 2 * (n / 2) = n by omega]
  · rw [if_neg p]
    refine ⟨0, tc_B_0 (by decide), rfl, ?_⟩
    by_cases c : 895 < n
    · rw [if_pos c]
    · rw [if_neg c, if_pos (by omega)]
