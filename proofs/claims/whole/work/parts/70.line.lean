/-! lines: the reference's cycle runs ahead of the class's while it counts lines -/
def tg_T (b : Nat) (σ t : tc_S) : Prop := tc_T b σ (tc_sf t 28 (tc_gf σ 28))
theorem tg_bit {x : Int32} (h : tc_B 2 x) : td_is x (x = 1) := by
  obtain ⟨n, hn, rfl⟩ := h
  have : n = 0 ∨ n = 1 := by omega
  rcases this with rfl | rfl
  · exact Or.inr ⟨rfl, by decide⟩
  · exact Or.inl ⟨rfl, rfl⟩
theorem tg_draw {b : Nat} {σ t : tc_S} (h : tg_T b σ t) {y : Nat} (hy : y < 8) (h27 : tc_gf t 27 = nI y) : ∃ s u, m_XD_draw σ (nI y) = some s ∧ m_XR_draw t = some u ∧ tg_T b s u ∧ tc_gf s 28 = tc_gf σ 28 ∧ tc_gf u 28 = tc_gf t 28 := by
  have hT : tc_T b σ (tc_sf t 28 (tc_gf σ 28)) := h
  obtain ⟨⟨r1, r2, r3, r4, r5⟩, ⟨i1, i2⟩, cn⟩ := h
  have gk : ∀ k, k < 33 → k ≠ 28 → tc_gf σ k = tc_gf t k := fun k hk h28 => by
    rw [r1 k hk (fun f => f), tc_gf_sf, if_neg h28]
  have ik : ∀ k, k < 34 → k ≠ 17 → k ≠ 18 → k ≠ 28 → tc_B (tc_bd k) (tc_gf t k) := fun k h1 h2 h3 h4 => by
    have := i1 k h1 h2 h3
    rwa [tc_gf_sf, if_neg h4] at this
  have ist := tg_bit (ik 25 (by decide) (by decide) (by decide) (by decide))
  obtain ⟨s, e1, a1, a2, a3, a4, a5⟩ := td_draw_c (σ := σ) (τ := tc_sf t 28 (tc_gf σ 28)) ⟨i1, i2⟩ (r3 2 (by decide)) (r3 4 (by decide)) (r3 5 (by decide)) hy (Pr := tc_gf t 25 = 1) (by rw [gk 25 (by decide) (by decide)]; exact ist)
  obtain ⟨u, e2, b1, b2, b3, b4, b5⟩ := td_draw_r (τ := tc_sf t 28 (tc_gf σ 28)) (t0 := t) ⟨i1, i2⟩ rfl hy h27 ist
  have s28 : tc_gf s 28 = tc_gf σ 28 := a1 28 (by decide) (by decide) (by decide)
  have u28 : tc_gf u 28 = tc_gf t 28 := b1 28 (by decide) (by decide) (by decide)
  have e25 : tc_gf s 25 = tc_gf u 25 := td_is_eq a4 b4 Iff.rfl
  have e26 : tc_gf s 26 = tc_gf u 26 := by rw [a5, b5, gk 26 (by decide) (by decide)]
  refine ⟨s, u, e1, e2, ⟨⟨fun k hk _ => ?_, ?_, fun j hj => ?_, fun k hk => ?_, fun k hk => ?_⟩, ⟨fun k hk h17 h18 => ?_, fun j i => ?_⟩, ?_⟩, s28, u28⟩
  · rw [tc_gf_sf]
    by_cases k28 : k = 28
    · rw [if_pos k28, k28]
    · rw [if_neg k28]
      by_cases k25 : k = 25
      · rw [k25, e25]
      · by_cases k26 : k = 26
        · rw [k26, e26]
        · rw [a1 k k25 k26 (by omega), b1 k k25 k26 (by omega), gk k hk k28]
  · rw [tc_gf_sf, if_neg (by decide), a1 33 (by decide) (by decide) (by decide), b1 33 (by decide) (by decide) (by decide)]
    exact r2
  · show s.2 j = u.2 j
    by_cases j6 : j = 6
    · subst j6
      rw [a3, b3, r3 6 (by decide)]
      rfl
    · rw [a2 j j6 (by omega), b2 j j6 (by omega)]
      exact r3 j hj
  · show s.2 7 k = 256 * u.2 7 (2 * k) + u.2 7 (2 * k + 1)
    rw [a2 7 (by decide) (by decide), b2 7 (by decide) (by decide)]
    exact r4 k hk
  · show s.2 8 k = 256 * u.2 8 (2 * k) + u.2 8 (2 * k + 1)
    rw [a2 8 (by decide) (by decide), b2 8 (by decide) (by decide)]
    exact r5 k hk
  · rw [tc_gf_sf]
    by_cases k28 : k = 28
    · rw [if_pos k28, k28, s28]
      have := i1 28 (by decide) (by decide) (by decide)
      rwa [tc_gf_sf, if_pos rfl] at this
    · rw [if_neg k28]
      by_cases k25 : k = 25
      · rw [k25]; exact td_is_B b4
      · by_cases k26 : k = 26
        · rw [k26, b5]
          split
          · exact tc_B_1 (by decide)
          · exact ik 26 (by decide) (by decide) (by decide) (by decide)
        · rw [b1 k k25 k26 (by omega)]; exact ik k hk h17 h18 k28
  · show tc_B (tc_ab j) (u.2 j i)
    by_cases j9 : j < 9
    · by_cases j6 : j = 6
      · subst j6; exact tc_B_any _
      · rw [b2 j j6 j9]; exact i2 j i
    · have : tc_ab j = 4294967296 := by
        unfold tc_ab
        split <;> first | omega | rfl
      rw [this]; exact tc_B_any _
  · have c14 : tc_gf (tc_sf u 28 (tc_gf s 28)) 14 = tc_gf t 14 := b1 14 (by decide) (by decide) (by decide)
    have c17 : tc_gf (tc_sf u 28 (tc_gf s 28)) 17 = tc_gf t 17 := b1 17 (by decide) (by decide) (by decide)
    have c18 : tc_gf (tc_sf u 28 (tc_gf s 28)) 18 = tc_gf t 18 := b1 18 (by decide) (by decide) (by decide)
    unfold tc_cnt
    rw [c14, c17, c18]
    exact cn
theorem tg_tell (t : tc_S) (v : Int32) : m_XR_tellSecond (tc_sf t 28 v) = (m_XR_tellSecond t).map (fun q => tc_sf q 28 v) := by
  unfold m_XR_tellSecond m_XR_tellSecond_14
  rw [tc_isOut, tc_isOut, show tc_so (tc_sf t 28 v) = tc_so t from rfl]
  simp only [tc_bs]
  by_cases c : tc_so t = 0
  · rw [if_pos c, if_pos c, show tc_gf (tc_sf t 28 v) 14 = tc_gf t 14 from rfl]
    by_cases c2 : tc_gf t 14 = 0
    · rw [if_pos c2, if_pos c2]; rfl
    · rw [if_neg c2, if_neg c2]
      show some _ = some _
      have e17 : tc_gf (tc_sf (tc_sf (tc_sf (tc_sf (tc_sf t 28 v) 10 ((tc_gf (tc_sf t 28 v) 11) &&& 255)) 11 56) 14 0) 13 0) 17 = tc_gf (tc_sf (tc_sf (tc_sf (tc_sf t 10 ((tc_gf t 11) &&& 255)) 11 56) 14 0) 13 0) 17 := rfl
      have e11 : tc_gf (tc_sf t 28 v) 11 = tc_gf t 11 := rfl
      rw [e17, e11, tc_sf_comm t v _ (show (28 : Nat) ≠ 10 by decide), tc_sf_comm _ v _ (show (28 : Nat) ≠ 11 by decide), tc_sf_comm _ v _ (show (28 : Nat) ≠ 14 by decide), tc_sf_comm _ v _ (show (28 : Nat) ≠ 13 by decide), tc_sf_comm _ v _ (show (28 : Nat) ≠ 17 by decide)]
  · rw [if_neg c, if_neg c]; rfl
theorem tg_sf {b : Nat} {σ t : tc_S} (h : tg_T b σ t) (k : Nat) {v : Int32} (hk : k < 33) (h1 : k ≠ 17) (h2 : k ≠ 18) (h3 : k ≠ 14) (h4 : k ≠ 28) (hv : tc_B (tc_bd k) v) : tg_T b (tc_sf σ k v) (tc_sf t k v) := by
  unfold tg_T at h ⊢
  rw [show tc_gf (tc_sf σ k v) 28 = tc_gf σ 28 from if_neg (Ne.symm h4), tc_sf_comm t v _ h4]
  exact tc_T_sf h k hk h1 h2 h3 hv
theorem tg_g {b : Nat} {σ t : tc_S} (h : tg_T b σ t) (k : Nat) (hk : k < 33) (h4 : k ≠ 28) : tc_gf σ k = tc_gf t k := by
  have := tc_T_g h k hk
  rwa [tc_gf_sf, if_neg h4] at this
theorem tg_a {b : Nat} {σ t : tc_S} (h : tg_T b σ t) (j : Nat) (hj : j < 7) (i : Int32) : tc_ga σ j i = tc_ga t j i := tc_T_a h j hj i
theorem tg_B {b : Nat} {σ t : tc_S} (h : tg_T b σ t) (k : Nat) (hk : k < 34) (h1 : k ≠ 17) (h2 : k ≠ 18) (h4 : k ≠ 28) : tc_B (tc_bd k) (tc_gf t k) := by
  have := tc_T_B h k hk h1 h2
  rwa [tc_gf_sf, if_neg h4] at this
theorem tg_tell2 {b : Nat} {σ t : tc_S} (h : tg_T b σ t) : ∃ s u, m_XS_tellLine8 σ = some s ∧ m_XR_tellSecond t = some u ∧ tg_T b s u ∧ tc_gf s 28 = tc_gf σ 28 ∧ tc_gf u 28 = tc_gf t 28 := by
  obtain ⟨s, u', e1, e2, h1⟩ := tc_tell h
  rw [tg_tell] at e2
  obtain ⟨u, eu, eu'⟩ := Option.map_eq_some_iff.mp e2
  have k28 : ∀ {x y : tc_S}, m_XR_tellSecond x = some y → tc_gf y 28 = tc_gf x 28 := by
    intro x y hy
    unfold m_XR_tellSecond m_XR_tellSecond_14 at hy
    rw [tc_isOut, tc_bs] at hy
    by_cases c : tc_so x = 0
    · rw [if_pos c] at hy
      by_cases c2 : tc_gf x 14 = 0
      · rw [if_pos c2] at hy; cases hy; rfl
      · rw [if_neg c2] at hy; cases hy; rfl
    · rw [if_neg c] at hy; cases hy; rfl
  have c28 : tc_gf s 28 = tc_gf σ 28 := k28 (x := σ) e1
  refine ⟨s, u, e1, eu, ?_, c28, k28 eu⟩
  unfold tg_T
  rw [c28, eu']
  exact h1
/-- counting down to a line's interrupt -/
theorem tg_count {b : Nat} {σ t : tc_S} (h : tg_T b σ t) : ∃ s u, m_XB_countDown σ = some s ∧ (if (tc_gf t 29) = 0 then (tc_gd 8 16 (if (tc_gf (tc_sf t 29 (tc_ga t 5 8)) 30) = 0 then (tc_gd 0 16 (if ((tc_ga (tc_sf t 29 (tc_ga t 5 8)) 5 0) &&& 16) = 0 then (m_XR_beginLine_56 (tc_sf t 29 (tc_ga t 5 8)) 0) else (m_XR_beginLine_51 (tc_sf t 29 (tc_ga t 5 8))))) else (m_XR_beginLine_51 (tc_sf t 29 (tc_ga t 5 8))))) else (m_XR_beginLine_72 (tc_sf t 29 ((tc_gf t 29) - 1)))) = some u ∧ tg_T b s u ∧ tc_gf s 28 = tc_gf σ 28 ∧ tc_gf u 28 = tc_gf t 28 := by
  obtain ⟨n, hn, en⟩ := tg_B h 29 (by decide) (by decide) (by decide) (by decide)
  have hn : n < 256 := hn
  have g8 : ∀ (z : Option tc_S), tc_gd 8 16 z = z := fun z => rfl
  have g0 : ∀ (z : Option tc_S), tc_gd 0 16 z = z := fun z => rfl
  have h1 := tg_sf h 29 (v := tc_ga t 5 8) (by decide) (by decide) (by decide) (by decide) (by decide) (h.2.1.2 5 _)
  have q1 : (nI n ≤ 0) ↔ n = 0 := by
    rw [show (0 : Int32) = nI 0 from rfl, nI_leI (by omega) (by decide)]; omega
  have q2 : (nI n = 0) ↔ n = 0 := tc_eqN (a := 0) rfl (by decide) (by omega)
  unfold m_XB_countDown m_XB_countDown_55 m_XB_countDown_60 m_XR_beginLine_51 m_XR_beginLine_56 m_XR_beginLine_72
  simp only [g8, g0, tc_gb_0, tc_gb_1]
  rw [tg_g h 29 (by decide) (by decide), en, tg_a h 5 (by decide), tg_a h1 5 (by decide), tg_g h1 30 (by decide) (by decide)]
  by_cases c : n = 0
  · rw [if_pos (q1.mpr c), if_pos (q2.mpr c)]
    have s1 := tg_sf h1 30 (v := 1) (by decide) (by decide) (by decide) (by decide) (by decide) (tc_B_1 (by decide))
    have s0 := tg_sf h1 30 (v := 0) (by decide) (by decide) (by decide) (by decide) (by decide) (tc_B_0 (by decide))
    by_cases c2 : tc_gf (tc_sf t 29 (tc_ga t 5 8)) 30 = 0
    · rw [if_pos c2, if_pos c2]
      by_cases c3 : (tc_ga (tc_sf t 29 (tc_ga t 5 8)) 5 0) &&& 16 = 0
      · rw [if_pos c3, if_pos c3]; exact ⟨_, _, rfl, rfl, s0, rfl, rfl⟩
      · rw [if_neg c3, if_neg c3]; exact ⟨_, _, rfl, rfl, s1, rfl, rfl⟩
    · rw [if_neg c2, if_neg c2]; exact ⟨_, _, rfl, rfl, s1, rfl, rfl⟩
  · rw [if_neg (fun k => c (q1.mp k)), if_neg (fun k => c (q2.mp k)), show nI n - 1 = nI (n - 1) from pk_sub (b := 1) (by omega)]
    exact ⟨_, _, rfl, rfl, tg_sf h 29 (by decide) (by decide) (by decide) (by decide) (by decide) ⟨n - 1, by show n - 1 < 256; omega, rfl⟩, rfl, rfl⟩
theorem tg_hidden {b : Nat} {σ t : tc_S} (h : tg_T b σ t) : ∃ s u, m_XB_beginHiddenLine σ = some s ∧ (tc_gd 8 16 (if (tc_gf (tc_sf t 29 (tc_ga t 5 8)) 27) = 8 then (if (tc_gf (tc_sf t 29 (tc_ga t 5 8)) 31) = 0 then (tc_gd 1 16 (if ((tc_ga (tc_sf t 29 (tc_ga t 5 8)) 5 1) &&& 32) = 0 then (m_XR_beginLine_118 (tc_sf t 29 (tc_ga t 5 8)) 0) else (m_XR_beginLine_113 (tc_sf t 29 (tc_ga t 5 8))))) else (m_XR_beginLine_113 (tc_sf t 29 (tc_ga t 5 8)))) else (m_XR_beginLine_125 (tc_sf t 29 (tc_ga t 5 8))))) = some u ∧ tg_T b s u ∧ tc_gf s 28 = tc_gf σ 28 ∧ tc_gf u 28 = tc_gf t 28 := by
  have g8 : ∀ (z : Option tc_S), tc_gd 8 16 z = z := fun z => rfl
  have g1 : ∀ (z : Option tc_S), tc_gd 1 16 z = z := fun z => rfl
  have h1 := tg_sf h 29 (v := tc_ga t 5 8) (by decide) (by decide) (by decide) (by decide) (by decide) (h.2.1.2 5 _)
  have tl : ∀ v : Int32, tc_B 2 v → ∃ s u, ((m_XS_tellLine8 (tc_sf (tc_sf σ 29 (tc_ga t 5 8)) 31 v)).bind (fun q => some q)) = some s ∧ ((m_XR_tellSecond (tc_sf (tc_sf t 29 (tc_ga t 5 8)) 31 v)).bind (fun q => some q)) = some u ∧ tg_T b s u ∧ tc_gf s 28 = tc_gf σ 28 ∧ tc_gf u 28 = tc_gf t 28 := by
    intro v hv
    obtain ⟨s, u, e1, e2, e3, e4, e5⟩ := tg_tell2 (tg_sf h1 31 (v := v) (by decide) (by decide) (by decide) (by decide) (by decide) hv)
    exact ⟨s, u, by rw [e1]; rfl, by rw [e2]; rfl, e3, e4, e5⟩
  unfold m_XB_beginHiddenLine m_XB_beginHiddenLine_46 m_XB_beginHiddenLine_51 m_XB_beginHiddenLine_61 m_XR_beginLine_113 m_XR_beginLine_118 m_XR_beginLine_125
  simp only [g8, g1, tc_gb_0, tc_gb_1]
  rw [tg_a h 5 (by decide), tg_a h1 5 (by decide), tg_g h1 27 (by decide) (by decide), tg_g h1 31 (by decide) (by decide)]
  by_cases c1 : tc_gf (tc_sf t 29 (tc_ga t 5 8)) 27 = 8
  · rw [if_pos c1, if_pos c1]
    by_cases c2 : tc_gf (tc_sf t 29 (tc_ga t 5 8)) 31 = 0
    · rw [if_pos c2, if_pos c2]
      by_cases c3 : (tc_ga (tc_sf t 29 (tc_ga t 5 8)) 5 1) &&& 32 = 0
      · rw [if_pos c3, if_pos c3]; exact tl 0 (tc_B_0 (by decide))
      · rw [if_neg c3, if_neg c3]; exact tl 1 (tc_B_1 (by decide))
    · rw [if_neg c2, if_neg c2]; exact tl 1 (tc_B_1 (by decide))
  · rw [if_neg c1, if_neg c1]
    exact ⟨_, _, rfl, rfl, h1, rfl, rfl⟩
theorem tg_same (t : tc_S) : tc_sf t 28 (tc_gf t 28) = t := by
  unfold tc_sf
  refine Prod.ext ?_ rfl
  funext k
  show (if k = 28 then _ else _) = _
  by_cases e : k = 28
  · rw [if_pos e, e]; rfl
  · rw [if_neg e]
theorem tg_loop {b c N : Nat} (hc : c < 64) (hN : N < 20000000) : ∀ (m f f' : Nat) {σ t : tc_S} (i : Nat), i + m = N → m < f → m < f' → tg_T b σ t → tc_gf σ 28 = nI c → tc_gf t 28 = nI (c + 64 * m) → tc_M (tc_T b) (m_XB_goOn_25 f σ (nI N) (nI i)) (m_XR_goOn_10 f' t) := by
  intro m
  induction m with
  | zero =>
    intro f f' σ t i him hf hf' h h1 h2
    obtain ⟨f, rfl⟩ : ∃ g, f = g + 1 := ⟨f - 1, by omega⟩
    obtain ⟨f', rfl⟩ : ∃ g, f' = g + 1 := ⟨f' - 1, by omega⟩
    have him : i = N := him
    subst him
    unfold m_XB_goOn_25 m_XR_goOn_10
    have z : nI (c + 64 * 0) < (64 : Int32) := nI_lt (b := 64) (by omega) (by decide)
    rw [if_pos (Int32.le_refl _), h2, if_pos z]
    refine tc_M_some ?_
    have hT : tc_T b σ (tc_sf t 28 (tc_gf σ 28)) := h
    rw [h1, show nI c = tc_gf t 28 by rw [h2]; rfl, tg_same] at hT
    exact hT
  | succ m ih =>
    intro f f' σ t i him hf hf' h h1 h2
    obtain ⟨f, rfl⟩ : ∃ g, f = g + 1 := ⟨f - 1, by omega⟩
    obtain ⟨f', rfl⟩ : ∃ g, f' = g + 1 := ⟨f' - 1, by omega⟩
    obtain ⟨l, hl, el⟩ := tg_B h 27 (by decide) (by decide) (by decide) (by decide)
    have hl : l < 12 := hl
    have e64 : nI (c + 64 * (m + 1)) - 64 = nI (c + 64 * m) := by
      rw [show nI (c + 64 * (m + 1)) - 64 = nI (c + 64 * (m + 1) - 64) from pk_sub (b := 64) (by omega)]
      congr 1
    have el1 : (nI l + 1) - (nI l + 1) / 12 * 12 = nI ((l + 1) % 12) := by
      rw [nI_1]; exact tc_mod (D := 12) (d := 12) rfl (by omega) (by decide) (by decide)
    have g27 : tc_gf σ 27 = nI l := (tg_g h 27 (by decide) (by decide)).trans el
    have e27 : tc_gf (tc_sf t 28 (nI (c + 64 * m))) 27 = nI l := el
    -- the next line, on both sides
    have hL : tg_T b (tc_sf σ 27 (nI ((l + 1) % 12))) (tc_sf (tc_sf t 28 (nI (c + 64 * m))) 27 (nI ((l + 1) % 12))) := by
      have h0 : tg_T b σ (tc_sf t 28 (nI (c + 64 * m))) := by
        unfold tg_T at h ⊢
        rw [tc_sf_over]
        exact h
      exact tg_sf h0 27 (by decide) (by decide) (by decide) (by decide) (by decide) ⟨(l + 1) % 12, by show (l + 1) % 12 < 12; omega, rfl⟩
    have fin : ∀ {s u : tc_S}, tg_T b s u → tc_gf s 28 = nI c → tc_gf u 28 = nI (c + 64 * m) → tc_M (tc_T b) (m_XB_goOn_74 (m_XB_goOn_25 f) s (nI N) (nI i)) (m_XR_goOn_10 f' u) := by
      intro s u k1 k2 k3
      unfold m_XB_goOn_74
      rw [nI_1]
      exact ih f f' (i + 1) (by omega) (by omega) (by omega) k1 k2 k3
    unfold m_XB_goOn_25 m_XR_goOn_10
    have z : ¬ nI (c + 64 * (m + 1)) < (64 : Int32) := nI_nlt (b := 64) (by omega) (by omega)
    rw [if_neg (nI_ge (by omega) (by omega)), h2, if_neg z, e64, e27, g27, el1]
    have v1 : tc_gf (tc_sf σ 27 (nI ((l + 1) % 12))) 27 = nI ((l + 1) % 12) := rfl
    have v2 : tc_gf (tc_sf (tc_sf t 28 (nI (c + 64 * m))) 27 (nI ((l + 1) % 12))) 27 = nI ((l + 1) % 12) := rfl
    have s28 : tc_gf (tc_sf σ 27 (nI ((l + 1) % 12))) 28 = nI c := h1
    have u28 : tc_gf (tc_sf (tc_sf t 28 (nI (c + 64 * m))) 27 (nI ((l + 1) % 12))) 28 = nI (c + 64 * m) := rfl
    unfold m_XR_beginLine
    rw [v1, v2]
    generalize tc_sf σ 27 (nI ((l + 1) % 12)) = s0 at *
    generalize tc_sf (tc_sf t 28 (nI (c + 64 * m))) 27 (nI ((l + 1) % 12)) = u0 at *
    by_cases c8 : 8 ≤ (l + 1) % 12
    · have z8 : (8 : Int32) ≤ nI ((l + 1) % 12) := nI_le (a := 8) c8 (by omega)
      rw [if_pos z8, if_pos z8]
      obtain ⟨s, u, e1, e2, k1, k2, k3⟩ := tg_hidden hL
      rw [e1, e2, tc_bs, tc_bs]
      exact fin k1 (k2.trans s28) (k3.trans u28)
    · have z8 : ¬ (8 : Int32) ≤ nI ((l + 1) % 12) := nI_ge (b := 8) (by omega) (by decide)
      rw [if_neg z8, if_neg z8]
      obtain ⟨s, u, e1, e2, k1, k2, k3⟩ := tg_draw hL (y := (l + 1) % 12) (by omega) v2
      obtain ⟨s', u', e3, e4, k4, k5, k6⟩ := tg_count k1
      rw [e1, e2, tc_bs, e3, tc_bs, tc_bs, e4, tc_bs]
      exact fin k4 (k5.trans (k2.trans s28)) (k6.trans (k3.trans u28))
theorem tc_goOn {b K : Nat} {σ τ : tc_S} (h : tc_T b σ τ) (hK : K < 1100000000) : tc_M (tc_T b) (m_XB_goOn σ (nI K)) (m_XR_goOn τ (nI K)) := by
  obtain ⟨c, hc, ec⟩ := tc_T_B h 28 (by decide) (by decide) (by decide)
  have hc : c < 64 := hc
  unfold m_XB_goOn m_XR_goOn
  rw [tc_T_g h 28 (by decide), ec, nI_add]
  rw [tc_mod (n := c + K) (D := 64) (d := 64) rfl (by omega) (by decide) (by decide), tc_div (n := c + K) (D := 64) (d := 64) rfl (by omega) (by decide) (by decide)]
  have := tg_loop (b := b) (c := (c + K) % 64) (N := (c + K) / 64) (by omega) (by omega) ((c + K) / 64) 20000000 20000000 (σ := tc_sf σ 28 (nI ((c + K) % 64))) (t := tc_sf τ 28 (nI (c + K))) 0 (by omega) (by omega) (by omega) (by
    unfold tg_T
    rw [show tc_gf (tc_sf σ 28 (nI ((c + K) % 64))) 28 = nI ((c + K) % 64) from rfl, tc_sf_over]
    exact tc_T_sf h 28 (by decide) (by decide) (by decide) (by decide) ⟨(c + K) % 64, by show (c + K) % 64 < 64; omega, rfl⟩) rfl (by
    rw [show tc_gf (tc_sf τ 28 (nI (c + K))) 28 = nI (c + K) from rfl]
    congr 1; omega)
  exact this
