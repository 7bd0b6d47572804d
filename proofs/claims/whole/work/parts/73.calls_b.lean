theorem tp_nle {a b : Nat} (h : b < a) (ha : a < 2 ^ 31) : ¬ nI a ≤ nI b := by
  rw [Int32.le_iff_toInt_le, nI_toInt ha, nI_toInt (by omega)]; omega
theorem tp_reset {b : Nat} {σ τ : tc_S} (h : tc_T b σ τ) : tc_M (tc_T b) (m_XT_reset σ) (m_XR_reset τ) := by
  have main : ∀ (n : Nat) (i : Nat) {s t : tc_S}, 8 - i < n → i ≤ 8 → tc_T b s t → tc_M (tc_T b) (m_XM_startAgain_2 n s (nI i)) (m_XR_reset_2 n t (nI i)) := by
    intro n
    induction n with
    | zero => intro i s t h1; omega
    | succ n ih =>
      intro i s t h1 h2 hT
      unfold m_XM_startAgain_2 m_XR_reset_2
      by_cases c : i = 8
      · subst c
        rw [if_pos (show (8 : Int32) ≤ nI 8 by decide), if_pos (show (8 : Int32) ≤ nI 8 by decide), tc_sF_c, tc_bs]
        have hF := tc_sF_T hT 1792
        obtain ⟨v1, b1, x1, y1⟩ := tc_q hF (n := 2) (by decide)
        obtain ⟨v1', b1', x1', y1'⟩ := tc_q hT (n := 2) (by decide)
        have e1 := tc_quiet_sF t 1792 (nI 2)
        rw [y1, y1'] at e1
        have e1 : v1 = v1' := congrArg Prod.fst (Option.some.inj e1)
        subst e1
        show tc_M _ ((m_XU_readQuietly (tc_sF s 1792) (nI 2)).bind _) ((m_XR_quiet t (nI 2)).bind _)
        rw [x1, y1', tc_bs, tc_bs]
        have hG := tc_T_sf hT 0 (by decide) (by decide) (by decide) (by decide) b1
        have hH := tc_T_sf hF 0 (by decide) (by decide) (by decide) (by decide) b1
        obtain ⟨v2, b2, x2, y2⟩ := tc_q hH (n := 6) (by decide)
        obtain ⟨v2', b2', x2', y2'⟩ := tc_q hG (n := 6) (by decide)
        have e2 := tc_quiet_sF (tc_sf t 0 v1) 1792 (nI 6)
        rw [tc_sF_sf t v1 1792 (by decide) (by decide) (by decide) (by decide) (by decide), y2, y2'] at e2
        have e2 : v2 = v2' := congrArg Prod.fst (Option.some.inj e2)
        subst e2
        show tc_M _ ((m_XU_readQuietly (tc_sf (tc_sF s 1792) 0 v1) (nI 6)).bind _) ((m_XR_quiet (tc_sf t 0 v1) (nI 6)).bind _)
        rw [x2, y2', tc_bs, tc_bs, tc_sF_r, tc_bs]
        simp only []
        rw [tc_sF_sf _ v2 1792 (by decide) (by decide) (by decide) (by decide) (by decide), tc_sF_sf t v1 1792 (by decide) (by decide) (by decide) (by decide) (by decide)]
        exact tc_M_some (tc_T_sf (tc_T_sf hH 1 (by decide) (by decide) (by decide) (by decide) b2) 7 (by decide) (by decide) (by decide) (by decide) (tc_B_0 (by decide)))
      · have c2 : ¬ (8 : Int32) ≤ nI i := tp_nle (a := 8) (by omega) (by decide)
        rw [if_neg c2, if_neg c2, tc_gd_nI (by omega) (by decide), tc_gd_nI (by omega) (by decide), nI_1]
        exact ih (i + 1) (by omega) (by omega) (tc_T_sa hT 0 _ (by decide) (tc_B_0 (by decide)))
  obtain ⟨a, c, e1, e2, k⟩ := main 2000 0 (by decide) (by decide) h
  refine ⟨a, c, ?_, e2, k⟩
  unfold m_XT_reset m_XM_startAgain
  rw [show m_XM_startAgain_2 2000 σ 0 = some a from e1]; rfl
theorem tp_step {b : Nat} {σ τ : tc_S} (h : tc_T b σ τ) (hb : b < 1000000000) : tc_M (tp_Q (b + 810000)) (m_XT_step σ) (m_XR_step τ) := by
  obtain ⟨a, c, e1, e2, k1, k2, k3⟩ := tc_step h hb
  refine ⟨a, c, ?_, e2, k1, tc_T_mono k3 (by omega)⟩
  unfold m_XT_step
  rw [e1]; rfl
theorem tp_run {b : Nat} {σ τ : tc_S} (h : tc_T b σ τ) (hb : b < 500000000) (w : Int32) : tc_M (tp_Q (b + 810000)) (m_XT_run σ w) (m_XR_run τ w) := by
  have main : ∀ (m n : Nat) (C d i e : Nat) {s t : tc_S}, m < n → C ≤ d + 2 * m → C ≤ 800 → d < 2000000000 → 2 * i ≤ d → i ≤ 800 → e + 2000 * m ≤ b + 810000 → tc_T e s t → tc_M (tp_Q (b + 810000)) (m_XT_run_17 n s (nI C) (nI d) (nI i)) (m_XR_run_15 n t (nI C) (nI d)) := by
    intro m
    induction m with
    | zero =>
      intro n C d i e s t h1 h2 h3 h4 h5 h8 h6 h7
      obtain ⟨n, rfl⟩ : ∃ k, n = k + 1 := ⟨n - 1, by omega⟩
      unfold m_XT_run_17 m_XR_run_15 m_XT_run_42
      have c : nI C ≤ nI d := nI_le (by omega) (by omega)
      rw [if_pos c, if_pos c, ite_self]
      exact tc_M_some ⟨rfl, tc_T_mono h7 (by omega)⟩
    | succ m ih =>
      intro n C d i e s t h1 h2 h3 h4 h5 h8 h6 h7
      obtain ⟨n, rfl⟩ : ∃ k, n = k + 1 := ⟨n - 1, by omega⟩
      unfold m_XT_run_17 m_XR_run_15 m_XT_run_42
      by_cases cc : C ≤ d
      · have c : nI C ≤ nI d := nI_le (by omega) (by omega)
        rw [if_pos c, if_pos c, ite_self]
        exact tc_M_some ⟨rfl, tc_T_mono h7 (by omega)⟩
      · have c : ¬ nI C ≤ nI d := tp_nle (by omega) (by omega)
        have c2 : ¬ (800 : Int32) ≤ nI i := tp_nle (a := 800) (by omega) (by decide)
        rw [if_neg c2, if_neg c, if_neg c]
        obtain ⟨a, g, e1, e2, k1, ⟨x, x1, x2, x3⟩, k3⟩ := tc_step h7 (by omega)
        rw [e1, e2, tc_bs, tc_bs, k1, x3, nI_add, nI_1]
        exact ih n C (d + x) (i + 1) (e + 2000) (by omega) (by omega) h3 (by omega) (by omega) (by omega) (by omega) k3
  unfold m_XT_run m_XR_run m_XT_run_11 m_XR_run_11
  rcases pk_ix w (n := 801) (by decide) with c | c | ⟨j, hj, rfl⟩
  · rw [if_pos c, if_pos c]; exact tc_M_some ⟨rfl, tc_T_mono h (by omega)⟩
  · rw [Int32.le_iff_toInt_le, nI_toInt (by decide)] at c
    have c1 : ¬ w < 0 := by rw [Int32.lt_iff_toInt_lt, show (0 : Int32).toInt = 0 from rfl]; omega
    have c2 : ¬ w ≤ 800 := by rw [Int32.le_iff_toInt_le, show (800 : Int32).toInt = 800 from rfl]; omega
    rw [if_neg c1, if_neg c2, if_neg c1, if_neg c2]; exact tc_M_some ⟨rfl, tc_T_mono h (by omega)⟩
  · have c1 : ¬ nI j < (0 : Int32) := nI_pos (by omega)
    have c2 : nI j ≤ (800 : Int32) := nI_le (b := 800) (by omega) (by decide)
    rw [if_neg c1, if_pos c2, if_neg c1, if_pos c2]
    exact main 400 2000 j 0 0 b (by decide) (by omega) (by omega) (by decide) (by decide) (by decide) (by omega) h
