theorem td_put6 {s : tc_S} {p : Nat → Int32} {y n : Nat} {col : Nat → Nat} (hy : y < 8) (hn : n < 16) (h : s.2 6 = td_scr p y n col) : (tc_sa s 6 (nI (16 * y + n)) (nI (col n))).2 6 = td_scr p y (n + 1) col := by
  rw [tc_sa2, if_pos rfl, tc_clamp (by omega), h, td_scr_s]
theorem td_bg {τ s : tc_S} (hi : tc_inv τ) (h5 : s.2 5 = τ.2 5) : tc_ga s 5 7 &&& 15 = nI (td_r τ 7 % 16) := by
  have r7 := td_rg (s := s) hi h5 (show (7 : Int32).toNatClampNeg = 7 from rfl)
  rw [r7.1]
  exact tc_msk (by omega) 4 (by decide)
/-- the class's last loop -/
theorem td_61 {τ : tc_S} {y : Nat} (hy : y < 8) {p : Nat → Int32} {l2 : Int32} (hl2 : l2 = if td_sn τ = true then 1 else 0) : ∀ (k f : Nat) (s : tc_S) (i : Nat), i + k = 16 → k < f → (td_sn τ = true → ∀ x, x < 16 → s.2 11 x = nI (td_fi τ y (td_R τ y).2.1 (td_R τ y).1 x) ∧ s.2 9 x = nI (td_pl τ y 0 x) ∧ s.2 10 x = nI (td_pl τ y 1 x)) → s.2 6 = td_scr p y i (td_cl τ y) →
    ∃ s', m_XD_draw_61 f s (nI y) l2 (nI (td_r τ 7 % 16)) (nI i) = some s' ∧ td_only 6 s s' ∧ s'.2 6 = td_scr p y 16 (td_cl τ y) := by
  intro k
  induction k with
  | zero =>
    intro f s i hik hf hd h6
    obtain ⟨f, rfl⟩ : ∃ g, f = g + 1 := ⟨f - 1, by omega⟩
    have hik : i = 16 := hik
    subst hik
    unfold m_XD_draw_61
    rw [if_pos (show (16 : Int32) ≤ nI 16 by decide)]
    exact ⟨s, rfl, ⟨rfl, fun _ _ => rfl⟩, h6⟩
  | succ k ih =>
    intro f s i hik hf hd h6
    obtain ⟨f, rfl⟩ : ∃ g, f = g + 1 := ⟨f - 1, by omega⟩
    have hci : ¬ (16 : Int32) ≤ nI i := nI_ge (b := 16) (by omega) (by decide)
    have eix : (nI y * 16) + nI i = nI (16 * y + i) := by
      rw [show nI y * 16 = nI (y * 16) from pk_mul y 16, nI_add, Nat.mul_comm]
    have go : ∀ v : Nat, v = td_cl τ y i → ∃ s', m_XD_draw_127 (m_XD_draw_61 f) s (nI y) l2 (nI (td_r τ 7 % 16)) (nI i) (nI v) ((nI y * 16) + nI i) = some s' ∧ td_only 6 s s' ∧ s'.2 6 = td_scr p y 16 (td_cl τ y) := by
      intro v hv
      subst hv
      unfold m_XD_draw_127
      rw [eix, tc_gd_nI (by omega) (by decide), nI_1]
      obtain ⟨s', r1, ⟨r2, r3⟩, r4⟩ := ih f (tc_sa s 6 (nI (16 * y + i)) (nI (td_cl τ y i))) (i + 1) (by omega) (by omega) hd (td_put6 hy (by omega) h6)
      exact ⟨s', r1, ⟨r2, fun j hj => (r3 j hj).trans (tc_sa_ne _ _ _ hj)⟩, r4⟩
    unfold m_XD_draw_61 m_XD_draw_100
    rw [if_neg hci]
    by_cases sn : td_sn τ = true
    · rw [if_pos sn] at hl2
      obtain ⟨d11, d9, d10⟩ := hd sn i (by omega)
      have a11 : tc_ga s 11 (nI i) = nI (td_fi τ y (td_R τ y).2.1 (td_R τ y).1 i) := by unfold tc_ga; rw [tc_clamp (by omega)]; exact d11
      have a9 : tc_ga s 9 (nI i) = nI (td_pl τ y 0 i) := by unfold tc_ga; rw [tc_clamp (by omega)]; exact d9
      have a10 : tc_ga s 10 (nI i) = nI (td_pl τ y 1 i) := by unfold tc_ga; rw [tc_clamp (by omega)]; exact d10
      have hfr := td_fr_lt (td_fi_lt τ y (td_R τ y).2.1 (td_R τ y).1 i) (td_pl_lt τ y 0 i) (td_pl_lt τ y 1 i)
      rw [if_neg (by rw [hl2]; decide), tc_gd_nI (by omega) (by decide), tc_gd_nI (by omega) (by decide), tc_gd_nI (by omega) (by decide), a11, a9, a10, td_fore s (td_fi_lt _ _ _ _ _) (td_pl_lt _ _ _ _) (td_pl_lt _ _ _ _), tc_bs]
      simp only []
      have z : (nI (td_fr (td_fi τ y (td_R τ y).2.1 (td_R τ y).1 i) (td_pl τ y 0 i) (td_pl τ y 1 i)) = 0) ↔ td_fc τ y i = 0 := tc_eqN (a := 0) rfl (by decide) (by omega)
      by_cases c : td_fc τ y i = 0
      · rw [if_pos (z.mpr c)]
        refine go _ ?_
        unfold td_cl
        rw [if_pos sn, if_pos c]
      · rw [if_neg (fun h => c (z.mp h)), tc_msk (n := td_fr (td_fi τ y (td_R τ y).2.1 (td_R τ y).1 i) (td_pl τ y 0 i) (td_pl τ y 1 i)) (by omega) 4 (by decide)]
        refine go _ ?_
        unfold td_cl
        rw [if_pos sn, if_neg c]
        rfl
    · rw [if_neg sn] at hl2
      rw [if_pos (by rw [hl2]), if_pos rfl]
      refine go _ ?_
      unfold td_cl
      rw [if_neg sn]
theorem td_shown {τ s : tc_S} (hi : tc_inv τ) (h5 : s.2 5 = τ.2 5) : (tc_ga s 5 1 &&& 64 = 0) ↔ ¬ td_sn τ = true := by
  have r1 := td_rg (s := s) hi h5 (show (1 : Int32).toNatClampNeg = 1 from rfl)
  rw [r1.1, tb_bit0 6 (by decide) (show (64 : Int32) = nI (2 ^ 6) from rfl)]
  unfold td_sn
  rw [decide_eq_true_eq]
  show td_r τ 1 / 64 % 2 = 0 ↔ ¬ td_r τ 1 / 64 % 2 = 1
  omega
theorem td_draw_c {τ σ : tc_S} (hi : tc_inv τ) (h2 : σ.2 2 = τ.2 2) (h4 : σ.2 4 = τ.2 4) (h5 : σ.2 5 = τ.2 5) {y : Nat} (hy : y < 8) {Pr : Prop} (his : td_is (tc_gf σ 25) Pr) : ∃ s, m_XD_draw σ (nI y) = some s ∧ td_res τ σ s y Pr := by
  have g1 : ∀ (z : Option tc_S), tc_gd 1 16 z = z := fun z => rfl
  have g7 : ∀ (z : Option tc_S), tc_gd 7 16 z = z := fun z => rfl
  have sw := td_shown (s := σ) hi h5
  unfold m_XD_draw m_XD_draw_17 m_XD_draw_47
  rw [g1]
  by_cases sn : td_sn τ = true
  · rw [if_neg (fun h => (sw.mp h) sn), if_neg (by decide)]
    obtain ⟨s1, a1, ⟨a2, a3⟩, a4⟩ := td_a16 hi h2 h4 h5 hy
    obtain ⟨s2, b1, ⟨b2, b3⟩, b4⟩ := td_a17 (s := s1) hi ((a3 2 (by decide)).trans h2) ((a3 4 (by decide)).trans h4) ((a3 5 (by decide)).trans h5) hy
    have q2 : s2.2 2 = τ.2 2 := (b3 2 (by decide)).trans ((a3 2 (by decide)).trans h2)
    have q5 : s2.2 5 = τ.2 5 := (b3 5 (by decide)).trans ((a3 5 (by decide)).trans h5)
    have e25 : tc_gf s2 25 = tc_gf σ 25 := by unfold tc_gf; rw [b2, a2]
    obtain ⟨s3, c1, c2, c3, c4, c5, c6⟩ := td_spf hi hy 16 2000 s2 0 (by omega) (by omega) q2 q5 (fun x hx => absurd hx (Nat.not_lt_zero x)) (by rw [e25]; exact his)
    have h6 : s3.2 6 = td_scr (σ.2 6) y 0 (td_cl τ y) := by
      rw [td_scr_0, c2 6 (by decide) (by decide), b3 6 (by decide), a3 6 (by decide)]
    obtain ⟨s4, d1, ⟨d2, d3⟩, d4⟩ := td_61 hy (τ := τ) (l2 := 1) (by rw [if_pos sn]) 16 2000 s3 0 (by omega) (by omega) (fun _ x hx => ⟨c5 x hx, by rw [c2 9 (by decide) (by decide), b3 9 (by decide)]; exact a4 x hx, by rw [c2 10 (by decide) (by decide)]; exact b4 x hx⟩) h6
    rw [a1, tc_bs, b1, tc_bs]
    have c1' : m_XD_drawSprites s2 (nI y) = some s3 := c1
    rw [c1', tc_bs, g7, td_bg hi (by rw [c2 5 (by decide) (by decide)]; exact q5)]
    have f4 : ∀ k, tc_gf s4 k = tc_gf s3 k := fun k => by unfold tc_gf; rw [d2]
    have f2 : ∀ k, tc_gf s2 k = tc_gf σ k := fun k => by unfold tc_gf; rw [b2, a2]
    refine ⟨s4, d1, fun k k1 k2 k3 => ?_, fun j j1 j2 => ?_, d4, ?_, ?_⟩
    · rw [f4, c3 k k1 k2, f2]
    · rw [d3 j j1, c2 j (by omega) (by omega), b3 j (by omega), a3 j (by omega)]
    · rw [f4]
      exact td_is_iff c6 ⟨fun h => h.elim Or.inl (fun h => Or.inr ⟨sn, h⟩), fun h => h.elim Or.inl (fun h => Or.inr h.2)⟩
    · rw [f4, c4, f2]
      by_cases m : (td_R τ y).2.2 = true
      · rw [if_pos m, if_pos ⟨sn, m⟩]
      · rw [if_neg m, if_neg (fun h => m h.2)]
  · rw [if_pos (sw.mpr sn), if_pos rfl, g7, td_bg hi h5]
    obtain ⟨s4, d1, ⟨d2, d3⟩, d4⟩ := td_61 hy (τ := τ) (l2 := 0) (p := σ.2 6) (by rw [if_neg sn]) 16 2000 σ 0 (by omega) (by omega) (fun h => absurd h sn) (td_scr_0 _ _ _).symm
    have f4 : ∀ k, tc_gf s4 k = tc_gf σ k := fun k => by unfold tc_gf; rw [d2]
    refine ⟨s4, d1, fun k _ _ _ => f4 k, fun j j1 _ => d3 j j1, d4, ?_, ?_⟩
    · rw [f4]; exact td_is_iff his ⟨Or.inl, fun h => h.elim id (fun h => absurd h.1 sn)⟩
    · rw [f4, if_neg (fun h => sn h.1)]
/-- the reference's loop -/
theorem td_28 {τ : tc_S} (hi : tc_inv τ) {y : Nat} (hy : y < 8) {p : Nat → Int32} {l1 : Int32} (hl1 : l1 = if td_sn τ = true then 1 else 0) {Pr : Prop} : ∀ (k f : Nat) (t : tc_S) (i : Nat), i + k = 16 → k < f → t.2 2 = τ.2 2 → t.2 4 = τ.2 4 → t.2 5 = τ.2 5 → tc_gf t 27 = nI y → (td_sn τ = true → tc_gf t 36 = nI (td_R τ y).1 ∧ ∀ j, j < (td_R τ y).1 → t.2 12 j = nI ((td_R τ y).2.1 j)) → t.2 6 = td_scr p y i (td_cl τ y) → td_is (tc_gf t 25) (Pr ∨ (td_sn τ = true ∧ ∃ x, x < i ∧ td_cx τ y (td_R τ y).2.1 0 (td_R τ y).1 x)) →
    ∃ t', m_XR_draw_28 f t l1 (nI i) = some t' ∧ (∀ j, j ≠ 6 → t'.2 j = t.2 j) ∧ (∀ k, k ≠ 25 → tc_gf t' k = tc_gf t k) ∧ t'.2 6 = td_scr p y 16 (td_cl τ y) ∧ td_is (tc_gf t' 25) (Pr ∨ td_hit τ y) := by
  intro k
  induction k with
  | zero =>
    intro f t i hik hf h2 h4 h5 h27 hR h6 his
    obtain ⟨f, rfl⟩ : ∃ g, f = g + 1 := ⟨f - 1, by omega⟩
    have hik : i = 16 := hik
    subst hik
    unfold m_XR_draw_28
    rw [if_pos (show (16 : Int32) ≤ nI 16 by decide)]
    exact ⟨t, rfl, fun _ _ => rfl, fun _ _ => rfl, h6, his⟩
  | succ k ih =>
    intro f t i hik hf h2 h4 h5 h27 hR h6 his
    obtain ⟨f, rfl⟩ : ∃ g, f = g + 1 := ⟨f - 1, by omega⟩
    have hci : ¬ (16 : Int32) ≤ nI i := nI_ge (b := 16) (by omega) (by decide)
    have g7 : ∀ (z : Option tc_S), tc_gd 7 16 z = z := fun z => rfl
    have eix : (16 * nI y) + nI i = nI (16 * y + i) := by
      rw [show 16 * nI y = nI (16 * y) from pk_mul 16 y, nI_add]
    have go : ∀ (u : tc_S) (v : Nat), v = td_cl τ y i → u.2 = t.2 → (∀ k, k ≠ 25 → tc_gf u k = tc_gf t k) → td_is (tc_gf u 25) (Pr ∨ (td_sn τ = true ∧ ∃ x, x < i + 1 ∧ td_cx τ y (td_R τ y).2.1 0 (td_R τ y).1 x)) → ∃ t', m_XR_draw_147 (m_XR_draw_28 f) u l1 (nI i) (nI v) = some t' ∧ (∀ j, j ≠ 6 → t'.2 j = t.2 j) ∧ (∀ k, k ≠ 25 → tc_gf t' k = tc_gf t k) ∧ t'.2 6 = td_scr p y 16 (td_cl τ y) ∧ td_is (tc_gf t' 25) (Pr ∨ td_hit τ y) := by
      intro u v hv hu2 hu1 hu25
      subst hv
      unfold m_XR_draw_147
      rw [hu1 27 (by decide), h27, eix, tc_gd_nI (by omega) (by decide), nI_1]
      have w : ∀ j, j ≠ 6 → (tc_sa u 6 (nI (16 * y + i)) (nI (td_cl τ y i))).2 j = t.2 j := fun j hj => (tc_sa_ne _ _ _ hj).trans (by rw [hu2])
      obtain ⟨t', r1, r2, r3, r4, r5⟩ := ih f (tc_sa u 6 (nI (16 * y + i)) (nI (td_cl τ y i))) (i + 1) (by omega) (by omega) ((w 2 (by decide)).trans h2) ((w 4 (by decide)).trans h4) ((w 5 (by decide)).trans h5) ((hu1 27 (by decide)).trans h27) (fun sn => ⟨(hu1 36 (by decide)).trans (hR sn).1, fun j hj => by rw [w 12 (by decide)]; exact (hR sn).2 j hj⟩) (td_put6 hy (by omega) (by rw [hu2]; exact h6)) hu25
      exact ⟨t', r1, fun j hj => (r2 j hj).trans (w j hj), fun k hk => (r3 k hk).trans (hu1 k hk), r4, r5⟩
    unfold m_XR_draw_28
    rw [if_neg hci, g7]
    by_cases sn : td_sn τ = true
    · rw [if_pos sn] at hl1
      rw [if_neg (by rw [hl1]; decide)]
      obtain ⟨hR1, hR2⟩ := hR sn
      obtain ⟨t1, s1, s2, s3, s4⟩ := td_at hi hy (show i < 16 by omega) (td_R_ok τ y).1 (td_R_ok τ y).2 (td_R τ y).1 2000 t 0 _ (by omega) (by have := (td_R_ok τ y).1; omega) h2 h5 h27 hR1 hR2 his
      have s1' : m_XR_spriteAt t (nI i) = some (nI (td_fi τ y (td_R τ y).2.1 (td_R τ y).1 i), t1) := s1
      have u2 : t1.2 2 = τ.2 2 := by rw [s2]; exact h2
      have u4 : t1.2 4 = τ.2 4 := by rw [s2]; exact h4
      have u5 : t1.2 5 = τ.2 5 := by rw [s2]; exact h5
      have u27 : tc_gf t1 27 = nI y := (s3 27 (by decide)).trans h27
      have p0 := td_pl_r hi u2 u4 u5 hy u27 (wh := 0) (by decide) (show i < 16 by omega)
      rw [show nI 0 = (0 : Int32) from rfl] at p0
      have p1 := td_pl_r hi u2 u4 u5 hy u27 (wh := 1) (by decide) (show i < 16 by omega)
      rw [show nI 1 = (1 : Int32) from rfl] at p1
      rw [s1', tc_bs]
      simp only []
      rw [p0, tc_bs]
      simp only []
      rw [p1, tc_bs]
      simp only []
      rw [td_bg hi h5]
      have lt1 := td_fi_lt τ y (td_R τ y).2.1 (td_R τ y).1 i
      have lt2 := td_pl_lt τ y 0 i
      have lt3 := td_pl_lt τ y 1 i
      have l15 : ∀ v : Nat, v < 32 → v ≠ 16 → ((nI v ≤ (15 : Int32)) ↔ ¬ 16 < v) := fun v hv h16 => by
        rw [show (15 : Int32) = nI 15 from rfl, nI_leI (by omega) (by decide)]; omega
      have l0 : ∀ v : Nat, v < 32 → ((nI v ≤ (0 : Int32)) ↔ ¬ v ≠ 0) := fun v hv => by
        rw [show (0 : Int32) = nI 0 from rfl, nI_leI (by omega) (by decide)]; omega
      have fin : ∀ v : Nat, v = td_fc τ y i → ∃ t', m_XR_draw_130 (m_XR_draw_28 f) t1 l1 (nI i) (nI (td_r τ 7 % 16)) (nI v) = some t' ∧ (∀ j, j ≠ 6 → t'.2 j = t.2 j) ∧ (∀ k, k ≠ 25 → tc_gf t' k = tc_gf t k) ∧ t'.2 6 = td_scr p y 16 (td_cl τ y) ∧ td_is (tc_gf t' 25) (Pr ∨ td_hit τ y) := by
        intro v hv
        have hv32 : v < 32 := by rw [hv]; exact td_fr_lt lt1 lt2 lt3
        have is1 : td_is (tc_gf t1 25) (Pr ∨ (td_sn τ = true ∧ ∃ x, x < i + 1 ∧ td_cx τ y (td_R τ y).2.1 0 (td_R τ y).1 x)) := by
          refine td_is_iff s4 ⟨fun h => ?_, fun h => ?_⟩
          · rcases h with (h | ⟨_, x, a1, a2⟩) | h
            · exact Or.inl h
            · exact Or.inr ⟨sn, x, by omega, a2⟩
            · exact Or.inr ⟨sn, i, by omega, h⟩
          · rcases h with h | ⟨_, x, a1, a2⟩
            · exact Or.inl (Or.inl h)
            · by_cases e : x = i
              · subst e; exact Or.inr a2
              · exact Or.inl (Or.inr ⟨sn, x, by omega, a2⟩)
        unfold m_XR_draw_130 m_XR_draw_146
        by_cases c : v = 0
        · rw [if_pos ((l0 v hv32).mpr (by omega))]
          refine go t1 _ ?_ s2 s3 is1
          unfold td_cl
          rw [if_pos sn, if_pos (by rw [← hv]; exact c)]
        · rw [if_neg (fun h => ((l0 v hv32).mp h) c), tc_msk (n := v) (by omega) 4 (by decide)]
          refine go t1 _ ?_ s2 s3 is1
          unfold td_cl
          rw [if_pos sn, if_neg (by rw [← hv]; exact c), ← hv]
      simp only [l15 _ lt1.1 lt1.2, l15 _ lt2.1 lt2.2, l15 _ lt3.1 lt3.2, l0 _ lt1.1, l0 _ lt2.1]
      have fcd : td_fc τ y i = td_fr (td_fi τ y (td_R τ y).2.1 (td_R τ y).1 i) (td_pl τ y 0 i) (td_pl τ y 1 i) := rfl
      unfold td_fr at fcd
      by_cases c1 : 16 < td_fi τ y (td_R τ y).2.1 (td_R τ y).1 i
      · rw [if_neg (fun h => h c1)]
        rw [if_pos c1] at fcd
        exact fin _ fcd.symm
      rw [if_pos c1]
      rw [if_neg c1] at fcd
      by_cases c2 : 16 < td_pl τ y 0 i
      · rw [if_neg (fun h => h c2)]
        rw [if_pos c2] at fcd
        exact fin _ fcd.symm
      rw [if_pos c2]
      rw [if_neg c2] at fcd
      by_cases c3 : 16 < td_pl τ y 1 i
      · rw [if_neg (fun h => h c3)]
        rw [if_pos c3] at fcd
        exact fin _ fcd.symm
      rw [if_pos c3]
      rw [if_neg c3] at fcd
      by_cases c4 : td_fi τ y (td_R τ y).2.1 (td_R τ y).1 i ≠ 0
      · rw [if_neg (fun h => h c4)]
        rw [if_pos c4] at fcd
        exact fin _ fcd.symm
      rw [if_pos c4]
      rw [if_neg c4] at fcd
      by_cases c5 : td_pl τ y 0 i ≠ 0
      · rw [if_neg (fun h => h c5)]
        rw [if_pos c5] at fcd
        exact fin _ fcd.symm
      rw [if_pos c5]
      rw [if_neg c5] at fcd
      exact fin _ fcd.symm
    · rw [if_neg sn] at hl1
      rw [if_pos hl1, td_bg hi h5]
      refine go t _ ?_ rfl (fun _ _ => rfl) (td_is_iff his ⟨fun h => h.elim Or.inl (fun h => absurd h.1 sn), fun h => h.elim Or.inl (fun h => absurd h.1 sn)⟩)
      unfold td_cl
      rw [if_neg sn]
theorem td_draw_r {τ t0 : tc_S} (hi : tc_inv τ) (h0 : t0.2 = τ.2) {y : Nat} (hy : y < 8) (h27 : tc_gf t0 27 = nI y) {Pr : Prop} (his : td_is (tc_gf t0 25) Pr) : ∃ t, m_XR_draw t0 = some t ∧ td_res τ t0 t y Pr := by
  have g1 : ∀ (z : Option tc_S), tc_gd 1 16 z = z := fun z => rfl
  have sw := td_shown (s := t0) hi (by rw [h0])
  unfold m_XR_draw m_XR_draw_17 m_XR_draw_26
  rw [g1]
  by_cases sn : td_sn τ = true
  · rw [if_neg (fun h => (sw.mp h) sn), if_neg (by decide)]
    obtain ⟨t1, k1, k2, k3, k4, k5⟩ := td_take_r hi hy 8 2000 (tc_sf t0 36 0) 0 0 0 (fun _ => 0) (by omega) (by omega) (by show t0.2 2 = _; rw [h0]) (by show t0.2 5 = _; rw [h0]) h27 rfl (by decide) (by decide) (fun j hj => absurd hj (Nat.not_lt_zero j))
    have k1' : m_XR_takeSprites t0 = some t1 := k1
    have e1 : ∀ k, k ≠ 36 → k ≠ 26 → tc_gf t1 k = tc_gf t0 k := by
      intro k h36 h26
      rw [k3 k h36]
      split
      · show (if k = 26 then _ else (tc_sf t0 36 0).1 k) = _
        rw [if_neg h26]
        show (if k = 36 then _ else _) = _
        rw [if_neg h36]; rfl
      · show (if k = 36 then _ else _) = _
        rw [if_neg h36]; rfl
    have e26 : tc_gf t1 26 = if (td_R τ y).2.2 = true then 1 else tc_gf t0 26 := by
      rw [k3 26 (by decide)]
      show (if (td_R τ y).2.2 = true then upd (tc_sf t0 36 0).1 26 1 else (tc_sf t0 36 0).1) 26 = _
      split <;> rfl
    have w : ∀ j, j ≠ 12 → t1.2 j = t0.2 j := fun j hj => k2 j hj
    have w' : ∀ j, j ≠ 12 → t1.2 j = τ.2 j := fun j hj => (w j hj).trans (by rw [h0])
    obtain ⟨t', r1, r2, r3, r4, r5⟩ := td_28 hi hy (p := t0.2 6) (l1 := 1) (by rw [if_pos sn]) (Pr := Pr) 16 2000 t1 0 (by omega) (by omega) (w' 2 (by decide)) (w' 4 (by decide)) (w' 5 (by decide)) ((e1 27 (by decide) (by decide)).trans h27) (fun _ => ⟨k4, k5⟩) (by rw [td_scr_0]; exact w 6 (by decide)) (by
      rw [e1 25 (by decide) (by decide)]
      exact td_is_iff his ⟨Or.inl, fun h => h.elim id (fun ⟨_, x, a1, _⟩ => absurd a1 (Nat.not_lt_zero x))⟩)
    rw [k1', tc_bs]
    refine ⟨t', r1, fun k a1 a2 a3 => (r3 k a1).trans (e1 k a3 a2), fun j j1 j2 => (r2 j j1).trans (w j (by omega)), r4, r5, ?_⟩
    rw [r3 26 (by decide), e26]
    by_cases m : (td_R τ y).2.2 = true
    · rw [if_pos m, if_pos ⟨sn, m⟩]
    · rw [if_neg m, if_neg (fun h => m h.2)]
  · rw [if_pos (sw.mpr sn), if_pos rfl]
    obtain ⟨t', r1, r2, r3, r4, r5⟩ := td_28 hi hy (p := t0.2 6) (l1 := 0) (by rw [if_neg sn]) (Pr := Pr) 16 2000 t0 0 (by omega) (by omega) (by rw [h0]) (by rw [h0]) (by rw [h0]) h27 (fun h => absurd h sn) (td_scr_0 _ _ _).symm (td_is_iff his ⟨Or.inl, fun h => h.elim id (fun h => absurd h.1 sn)⟩)
    refine ⟨t', r1, fun k a1 _ _ => r3 k a1, fun j j1 _ => r2 j j1, r4, r5, ?_⟩
    rw [r3 26 (by decide), if_neg (fun h => sn h.1)]
