theorem tc_T_34 {b : Nat} {σ τ : tc_S} (h : tc_T b σ τ) (v : Int32) : tc_T b σ (tc_sf τ 34 v) := by
  obtain ⟨⟨h1, h2⟩, ⟨i1, i2⟩, cn⟩ := h
  refine ⟨⟨fun k hk hx => ?_, h2⟩, ⟨fun k hk a1 a2 => ?_, i2⟩, cn⟩
  · rw [tc_gf_sf, if_neg (by omega)]; exact h1 k hk hx
  · rw [tc_gf_sf, if_neg (by omega)]; exact i1 k hk a1 a2
/-! a word that moves -/
theorem tc_src {n : Nat} (hn : n < 65536) : (nI n &&& 64512) ||| ((nI n + 2) &&& 1023) = nI (n / 1024 * 1024 + (n + 2) % 1024) := by
  have e1 : nI n &&& 64512 = nI (n / 1024 * 1024) := by
    have := tb_hl (x := n) 252 0 (by decide)
    rw [Nat.and_zero] at this
    have e252 : ∀ c, c < 256 → c &&& 252 = c / 4 * 4 := by decide +kernel
    rw [e252 _ (by omega)] at this
    rw [show (64512 : Int32) = nI (256 * 252 + 0) from rfl, this]
    congr 1; omega
  have e2 : (nI n + 2) &&& 1023 = nI ((n + 2) % 1024) := by
    rw [show nI n + 2 = nI (n + 2) from nI_add n 2]; exact tc_msk (by omega) 10 (by decide)
  rw [e1, e2, tb_or]
  congr 1
  have := Nat.two_pow_add_eq_or_of_lt (i := 10) (b := (n + 2) % 1024) (Nat.mod_lt _ (by decide)) (n / 1024)
  rw [Nat.mul_comm (n / 1024) 1024]
  exact this.symm
theorem tc_mvw {b : Nat} {σ τ : tc_S} (h : tc_T b σ τ) (hm : ¬ tc_gf τ 23 ≤ 0) : tc_M (tc_T b) (m_XU_moveWord σ) (m_XR_moveWord τ) := by
  have tail : ∀ {v : Int32}, tc_B 65536 v → tc_M (tc_T b) (m_XU_moveWord_28 σ v) (m_XR_moveWord_23 τ v) := by
    intro v hv
    have k23 : ∀ {c : tc_S}, m_XR_put τ v = some c → tc_gf c 23 = tc_gf τ 23 := by
      intro c hc
      unfold m_XR_put m_XR_put_35 m_XR_put_65 m_XR_put_96 m_XR_put_132 at hc
      simp only [tc_grow_r] at hc
      have gd : ∀ {i : Int32} {n : Nat} {x : Option tc_S}, tc_gd i n x = some c → x = some c := fun h => (tc_gd_some h).2
      split at hc
      · split at hc
        · split at hc
          · have hc := gd hc
            have hc := gd hc
            cases hc
            rfl
          · have hc := gd hc
            have hc := gd hc
            cases hc
            rfl
        · split at hc
          · have hc := gd hc
            have hc := gd hc
            cases hc
            rfl
          · have hc := gd hc
            have hc := gd hc
            cases hc
            rfl
      · split at hc
        · have hc := gd hc; cases hc; rfl
        · split at hc
          · have hc := gd hc; cases hc; rfl
          · cases hc; rfl
    unfold m_XU_moveWord_28 m_XR_moveWord_23 m_XP_takeMovedWord m_XP_takeMovedWord_48 m_XR_moveWord_74
    obtain ⟨a, c, e1, e2, h1⟩ := tc_put h hv
    have e23 := k23 e2
    rw [e1, e2, tc_bs, tc_bs]
    obtain ⟨n, hn, en⟩ := tc_T_B h1 24 (by decide) (by decide) (by decide)
    have hn : n < 65536 := hn
    obtain ⟨m, hmm, em⟩ := tc_T_B h1 23 (by decide) (by decide) (by decide)
    have hmm : m < 513 := hmm
    have hm0 : 0 < m := by
      rw [← e23, em] at hm
      by_cases z : m = 0
      · subst z; exact absurd (Int32.le_refl _) hm
      · omega
    have er : ((nI n / 1024) * 1024) + ((nI n + 2) - (nI n + 2) / 1024 * 1024) = nI (n / 1024 * 1024 + (n + 2) % 1024) := by
      rw [tc_div (n := n) (D := 1024) (d := 1024) rfl (by omega) (by decide) (by decide), show nI n + 2 = nI (n + 2) from nI_add n 2, tc_mod (n := n + 2) (D := 1024) (d := 1024) rfl (by omega) (by decide) (by decide), show nI (n / 1024) * 1024 = nI (n / 1024 * 1024) from pk_mul _ 1024, nI_add]
    rw [tc_T_g h1 24 (by decide), en, tc_src hn, er]
    have h2 := tc_T_sf h1 24 (v := nI (n / 1024 * 1024 + (n + 2) % 1024)) (by decide) (by decide) (by decide) (by decide) ⟨_, by show n / 1024 * 1024 + (n + 2) % 1024 < 65536; omega, rfl⟩
    rw [tc_T_g h2 23 (by decide)]
    have e23' : tc_gf (tc_sf c 24 (nI (n / 1024 * 1024 + (n + 2) % 1024))) 23 = nI m := em
    rw [e23', show nI m - 1 = nI (m - 1) from pk_sub (b := 1) (by omega)]
    have h3 := tc_T_sf h2 23 (v := nI (m - 1)) (by decide) (by decide) (by decide) (by decide) ⟨m - 1, by show m - 1 < 513; omega, rfl⟩
    have f1 : ∀ s : tc_S, tc_gf (tc_sf s 23 (nI (m - 1))) 23 = nI (m - 1) := fun s => rfl
    rw [f1, f1, tc_em_c, tc_em_r]
    simp only [tc_bs]
    by_cases z : nI (m - 1) = 0
    · rw [if_pos z, if_pos z]; exact tc_M_some (tc_T_em h3)
    · rw [if_neg z, if_neg z]; exact tc_M_some h3
  obtain ⟨n, hn, en⟩ := tc_T_B h 24 (by decide) (by decide) (by decide)
  have hn : n < 65536 := hn
  unfold m_XU_moveWord m_XR_moveWord
  rw [tc_T_g h 24 (by decide), en]
  by_cases c : (768 : Int32) ≤ nI n
  · rw [if_pos c, if_pos c]; exact tail (tc_B_0 (by decide))
  · obtain ⟨v, hv, e1, e2⟩ := tc_q h hn
    rw [if_neg c, if_neg c, e1, e2, tc_bs, tc_bs]
    exact tail hv
/-! a step -/
/-- what a step leaves: cycles between 2 and a bound -/
theorem tc_step {b : Nat} {σ τ : tc_S} (h : tc_T b σ τ) (hb : b < 1000000000) : tc_M (fun a c => a.1 = c.1 ∧ (∃ n, 2 ≤ n ∧ n ≤ b + 44 ∧ c.1 = nI n) ∧ tc_T (b + 2000) a.2 c.2) (m_XT_oneStep σ) (m_XR_step τ) := by
  -- behind the main processor's part
  have tail : ∀ (n e : Nat) {s t : tc_S}, 1 < n → n < 45 → e ≤ b → tc_T b s t → tc_gf t 34 = nI e → tc_M (fun a c => a.1 = c.1 ∧ (∃ n, 2 ≤ n ∧ n ≤ b + 44 ∧ c.1 = nI n) ∧ tc_T (b + 2000) a.2 c.2) (m_XT_oneStep_94 s (nI n) (nI e)) ((m_XR_give t (nI n)).bind (fun q12 => ((m_XR_goOn q12 (nI n + (tc_gf q12 34))).bind (fun q22 => (some ((nI n + (tc_gf q22 34)), q22)))))) := by
    intro n e s t h1 h2 h3 h4 h5
    unfold m_XT_oneStep_94
    obtain ⟨a, c, e1, e2, k1⟩ := tc_give h4 h2 (by omega)
    have f1 := kp_XR_give e2
    rw [e1, e2, tc_bs, tc_bs, f1, h5, nI_add]
    obtain ⟨a', c', e3, e4, k2⟩ := tc_goOn k1 (K := n + e) (by omega)
    have f2 := kp_XR_goOn e4
    rw [e3, e4, tc_bs, tc_bs, f2, f1, h5, nI_add]
    exact tc_M_some ⟨rfl, ⟨n + e, by omega, by omega, rfl⟩, k2⟩
  have h0 := tc_T_34 h 0
  have e34 : tc_gf (tc_sf τ 34 0) 34 = nI 0 := rfl
  unfold m_XT_oneStep m_XR_step
  rw [tc_T_g h 2 (by decide)]
  generalize hτ : tc_sf τ 34 0 = t at h0 e34
  have g2 : tc_gf τ 2 = tc_gf t 2 := by rw [← hτ]; rfl
  rw [g2]
  clear hτ g2
  have g23 := tc_T_g h0 23 (by decide)
  have g30 := tc_T_g h0 30 (by decide)
  have g31 := tc_T_g h0 31 (by decide)
  have g7 := tc_T_g h0 7 (by decide)
  have mv : ∀ s : tc_S, m_XP_movesFromMemory s = some (if tc_gf s 23 ≤ 0 then 0 else 1, s) := tc_mv_c
  -- the level
  have hp : ∃ v : Int32, m_XB_highestPending σ (tc_gf t 2) = some (v, σ) ∧ v = (if ¬ tc_gf t 31 = 0 ∧ ¬ 6 ≤ tc_gf t 2 then 6 else if ¬ tc_gf t 30 = 0 ∧ ¬ 4 ≤ tc_gf t 2 then 4 else 0) := by
    unfold m_XB_highestPending m_XB_highestPending_16 m_XB_highestPending_32 m_XB_highestPending_33
    rw [g30, g31]
    by_cases a1 : tc_gf t 31 = 0 <;> by_cases a2 : 6 ≤ tc_gf t 2 <;> by_cases a3 : tc_gf t 30 = 0 <;> by_cases a4 : 4 ≤ tc_gf t 2 <;> simp only [a1, a2, a3, a4, not_true, not_false_eq_true, and_self, and_true, true_and, and_false, false_and, if_true, if_false] <;> exact ⟨_, rfl, rfl⟩
  obtain ⟨v, hv1, hv2⟩ := hp
  rw [hv1, tc_bs]
  simp only []
  rw [mv, tc_bs, g23, g7]
  simp only []
  unfold m_XR_mainStep
  by_cases c23 : tc_gf t 23 ≤ 0
  · simp only [c23, if_true]
    have cont : ∀ {X : Option (Int32 × tc_S)} {x : Int32} {Y : Option (Int32 × tc_S)} {s : tc_S}, tc_M (tc_QK b) X Y → (∀ c, Y = some c → tc_gf c.2 34 = nI 0) → tc_M (fun a c => a.1 = c.1 ∧ (∃ n, 2 ≤ n ∧ n ≤ b + 44 ∧ c.1 = nI n) ∧ tc_T (b + 2000) a.2 c.2) (X.bind (fun q => m_XT_oneStep_94 q.2 q.1 0)) (Y.bind (fun q6 => ((m_XR_give q6.2 q6.1).bind (fun q12 => ((m_XR_goOn q12 (q6.1 + (tc_gf q12 34))).bind (fun q22 => (some ((q6.1 + (tc_gf q22 34)), q22)))))))) := by
      intro X x Y s hXY hY
      obtain ⟨a, c, e1, e2, k1, ⟨n, hn, en⟩, k3, k4⟩ := hXY
      rw [e1, e2, tc_bs, tc_bs, k1, en]
      rw [en] at k3
      have hn1 : 1 < n := by
        by_cases z : 1 < n
        · exact z
        · exact absurd k3 (nI_nlt (b := n) (a := 1) (by omega) (by decide))
      exact tail n 0 hn1 hn (by omega) k4 (hY c e2)
    have ir : ∀ (k : Nat) (f : Nat) , (k = 4 ∨ k = 6) → f < 33 → f ≠ 17 → f ≠ 18 → f ≠ 14 → tc_bd f = 2 → tc_M (fun a c => a.1 = c.1 ∧ (∃ n, 2 ≤ n ∧ n ≤ b + 44 ∧ c.1 = nI n) ∧ tc_T (b + 2000) a.2 c.2) ((m_XM_interrupt (tc_sf σ f 0) (nI k)).bind (fun q56 => m_XT_oneStep_94 q56.2 q56.1 0)) (Option.bind ((m_XR_interrupt (tc_sf t f 0) (nI k)).bind (fun q => some (q.1, q.2))) (fun q6 => ((m_XR_give q6.2 q6.1).bind (fun q12 => ((m_XR_goOn q12 (q6.1 + (tc_gf q12 34))).bind (fun q22 => (some ((q6.1 + (tc_gf q22 34)), q22)))))))) := by
      intro k f hk f1 f2 f3 f4 f5
      have hT := tc_T_sf h0 f f1 f2 f3 f4 (tc_B_0 (b := tc_bd f) (by rw [f5]; decide))
      have hI := tc_intr hT (k := k) (by omega)
      obtain ⟨a, c, e1, e2, k1⟩ := hI
      have kk := kp_XR_interrupt e2
      have e2' : ((m_XR_interrupt (tc_sf t f 0) (nI k)).bind (fun q => some (q.1, q.2))) = some c := by rw [e2]; rfl
      refine cont (x := 0) (s := σ) ⟨a, c, e1, e2', k1⟩ (fun c2 hc2 => ?_)
      rw [e2'] at hc2
      cases hc2
      rw [kk, tc_gf_sf, if_neg (by omega)]
      exact e34
    by_cases c1 : ¬ tc_gf t 31 = 0 ∧ ¬ 6 ≤ tc_gf t 2
    · rw [if_pos c1] at hv2
      rw [if_neg c1.1, if_neg c1.2, hv2, if_neg (by decide)]
      show tc_M _ (Option.bind (some (tc_sf σ 31 0)) _) _
      rw [tc_bs]
      exact ir 6 31 (Or.inr rfl) (by decide) (by decide) (by decide) (by decide) rfl
    · rw [if_neg c1] at hv2
      have r41 : (if tc_gf t 31 = 0 then m_XR_mainStep_41 t else if 6 ≤ tc_gf t 2 then m_XR_mainStep_41 t else (m_XR_interrupt (tc_sf t 31 0) 6).bind (fun q37 => some (q37.1, q37.2))) = m_XR_mainStep_41 t := by
        by_cases a1 : tc_gf t 31 = 0
        · rw [if_pos a1]
        · rw [if_neg a1]
          by_cases a2 : 6 ≤ tc_gf t 2
          · rw [if_pos a2]
          · exact absurd ⟨a1, a2⟩ c1
      rw [r41]
      unfold m_XR_mainStep_41
      by_cases c2 : ¬ tc_gf t 30 = 0 ∧ ¬ 4 ≤ tc_gf t 2
      · rw [if_pos c2] at hv2
        rw [if_neg c2.1, if_neg c2.2, hv2, if_neg (by decide)]
        show tc_M _ (Option.bind (some (tc_sf σ 30 0)) _) _
        rw [tc_bs]
        exact ir 4 30 (Or.inl rfl) (by decide) (by decide) (by decide) (by decide) rfl
      · rw [if_neg c2] at hv2
        have r67 : (if tc_gf t 30 = 0 then m_XR_mainStep_67 t else if 4 ≤ tc_gf t 2 then m_XR_mainStep_67 t else (m_XR_interrupt (tc_sf t 30 0) 4).bind (fun q63 => some (q63.1, q63.2))) = m_XR_mainStep_67 t := by
          by_cases a1 : tc_gf t 30 = 0
          · rw [if_pos a1]
          · rw [if_neg a1]
            by_cases a2 : 4 ≤ tc_gf t 2
            · rw [if_pos a2]
            · exact absurd ⟨a1, a2⟩ c2
        rw [r67, hv2, if_pos rfl]
        unfold m_XR_mainStep_67
        by_cases c7 : tc_gf t 7 = 0
        · rw [if_pos c7, if_pos c7]
          show tc_M _ (Option.bind (some (tc_gf σ 18, tc_sf σ 18 0)) _) _
          rw [tc_bs]
          simp only []
          obtain ⟨d1, d2, d3, d4, d5⟩ := h0.2.2
          obtain ⟨e, he, ee⟩ := nI_of (x := tc_gf t 18) (by rw [Int32.lt_iff_toInt_lt, show (0 : Int32).toInt = 0 from rfl]; omega)
          have eb : e ≤ b := by rw [ee, nI_toInt he] at d5; omega
          rw [tc_T_g h0 18 (by decide), ee]
          have hT : tc_T b (tc_sf σ 18 0) (tc_sf (tc_sf t 34 (nI e)) 18 0) := by
            have h1 := tc_T_34 h0 (nI e)
            refine ⟨tc_rel_sf h1.1 18 (by decide) 0, tc_inv_sf h1.2.1 18 (fun _ _ k => absurd rfl k), d1, d2, d3, ?_, ?_⟩
            · show 0 ≤ (0 : Int32).toInt; decide
            · show (0 : Int32).toInt ≤ b
              rw [show (0 : Int32).toInt = 0 from rfl]; omega
          obtain ⟨a, c, e1, e2, k1, ⟨n, hn, en⟩, k3, k4⟩ := tc_inst hT
          have kk := kp_XR_instruction e2
          rw [e1, e2, tc_bs, tc_bs, tc_bs]
          simp only []
          rw [k1, en]
          rw [en] at k3
          have hn1 : 1 < n := by
            by_cases z : 1 < n
            · exact z
            · exact absurd k3 (nI_nlt (b := n) (a := 1) (by omega) (by decide))
          exact tail n e hn1 hn eb k4 (by rw [kk]; rfl)
        · rw [if_neg c7, if_neg c7, tc_bs]
          exact tail 4 0 (by decide) (by decide) (by omega) h0 e34
  · simp only [c23, if_false]
    rw [if_neg (by decide)]
    obtain ⟨a, c, e1, e2, k1⟩ := tc_mvw h0 c23
    have kk := kp_XR_moveWord e2
    rw [e1, e2, tc_bs, tc_bs, tc_bs]
    exact tail 2 0 (by decide) (by decide) (by omega) k1 (by rw [kk]; exact e34)
