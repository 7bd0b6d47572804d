def td_only (J : Nat) (s s' : tc_S) : Prop := s'.1 = s.1 ∧ ∀ j, j ≠ J → s'.2 j = s.2 j
theorem td_134_a16 {τ s : tc_S} (hi : tc_inv τ) (hs : s.2 2 = τ.2 2) {Z : tc_S → Int32 → Int32 → Int32 → Int32 → Int32 → Int32 → Option (tc_S)} {l3 l5 l6 l7 : Int32} {bs X Y i : Nat} (hX : X < 32) (hY : Y < 16) (hi16 : i < 16) : m_XD_drawPlane_a16_134 Z s l3 (nI (bs % 16 * 32)) l5 l6 l7 (nI i) (nI X) (nI Y) = Z (tc_sa s 9 (nI i) (nI (td_pp τ bs X Y))) l3 (nI (bs % 16 * 32)) l5 l6 l7 (nI (i + 1)) := by
  have e1 : (nI (bs % 16 * 32) + ((nI Y / 4) * 8)) + (nI X / 4) = nI (bs % 16 * 32 + Y / 4 * 8 + X / 4) := by
    rw [tc_div (n := Y) (D := 4) (d := 4) rfl (by omega) (by decide) (by decide), tc_div (n := X) (D := 4) (d := 4) rfl (by omega) (by decide) (by decide), show nI (Y / 4) * 8 = nI (Y / 4 * 8) from pk_mul _ 8, nI_add, nI_add]
  have e2 : nI X &&& 3 = nI (X % 4) := tc_msk (by omega) 2 (by decide)
  have e3 : nI Y &&& 3 = nI (Y % 4) := tc_msk (by omega) 2 (by decide)
  unfold m_XD_drawPlane_a16_134
  rw [e1, td_wc hi hs (by omega), tc_bs]
  simp only [e2, e3]
  rw [td_dot_c hi hs (td_w_num hi _).2 (by omega) (by omega), tc_bs, tc_gd_nI hi16 (by decide), nI_1]
  rfl
theorem td_L_a16 {τ : tc_S} (hi : tc_inv τ) {y wh win : Nat} (hy : y < 8) (hwin : win = if wh = 0 then td_r τ 3 % 8 else 0) : ∀ (k f : Nat) (s : tc_S) (i : Nat), i + k = 16 → k < f → s.2 2 = τ.2 2 → (∀ x, x < i → s.2 9 x = nI (td_pl τ y wh x)) → ∃ s', m_XD_drawPlane_a16_75 f s (nI y) (nI (td_r τ (2 + 2 * wh) % 16 * 32)) (nI (td_w τ (td_r τ 13 % 32 * 16 + wh))) (nI (td_v τ wh)) (nI win) (nI i) = some s' ∧ td_only 9 s s' ∧ ∀ x, x < 16 → s'.2 9 x = nI (td_pl τ y wh x) := by
  have hwin8 : win < 8 := by rw [hwin]; split <;> omega
  have hV : td_v τ wh < 65536 := (td_num (hi.2 4 wh) (by decide)).2
  intro k
  induction k with
  | zero =>
    intro f s i hik hf hs hx
    obtain ⟨f, rfl⟩ : ∃ g, f = g + 1 := ⟨f - 1, by omega⟩
    have hik : i = 16 := hik
    subst hik
    unfold m_XD_drawPlane_a16_75
    rw [if_pos (show (16 : Int32) ≤ nI 16 by decide)]
    exact ⟨s, rfl, ⟨rfl, fun _ _ => rfl⟩, hx⟩
  | succ k ih =>
    intro f s i hik hf hs hx
    obtain ⟨f, rfl⟩ : ∃ g, f = g + 1 := ⟨f - 1, by omega⟩
    have hci : ¬ (16 : Int32) ≤ nI i := nI_ge (b := 16) (by omega) (by decide)
    have ex : nI i / 4 = nI (i / 4) := tc_div (D := 4) (d := 4) rfl (by omega) (by decide) (by decide)
    have lw : nI (i / 4) < nI win ↔ i / 4 < win := nI_ltI (by omega) (by omega)
    have go : ∀ {v : Nat}, v = td_pl τ y wh i → ∃ s', m_XD_drawPlane_a16_75 f (tc_sa s 9 (nI i) (nI v)) (nI y) (nI (td_r τ (2 + 2 * wh) % 16 * 32)) (nI (td_w τ (td_r τ 13 % 32 * 16 + wh))) (nI (td_v τ wh)) (nI win) (nI (i + 1)) = some s' ∧ td_only 9 s s' ∧ ∀ x, x < 16 → s'.2 9 x = nI (td_pl τ y wh x) := by
      intro v hv
      obtain ⟨s', e, ⟨o1, o2⟩, o3⟩ := ih f (tc_sa s 9 (nI i) (nI v)) (i + 1) (by omega) (by omega) hs (by
        intro x hx1
        rw [tc_sa2, if_pos rfl, tc_clamp (by omega)]
        unfold upd
        by_cases e : x = i
        · rw [if_pos e, hv, e]
        · rw [if_neg e]; exact hx x (by omega))
      exact ⟨s', e, ⟨o1, fun j hj => (o2 j hj).trans (tc_sa_ne _ _ _ hj)⟩, o3⟩
    have pl1 : i / 4 < win → td_pl τ y wh i = td_pp τ (td_r τ (2 + 2 * wh)) i y := by
      intro c
      unfold td_pl
      by_cases hw0 : wh = 0
      · rw [if_pos hw0] at hwin
        rw [if_pos ⟨hw0, by omega⟩]
      · rw [if_neg hw0] at hwin; omega
    have pl2 : ¬ i / 4 < win → td_pl τ y wh i = td_pp τ (td_r τ (2 + 2 * wh)) ((i + 65536 - td_w τ (td_r τ 13 % 32 * 16 + wh)) % 32) ((y + td_v τ wh) % 16) := by
      intro c
      unfold td_pl
      by_cases hw0 : wh = 0
      · rw [if_pos hw0] at hwin
        rw [if_neg (by omega)]
      · rw [if_neg (by omega)]
    unfold m_XD_drawPlane_a16_75
    rw [if_neg hci, ex]
    unfold m_XD_drawPlane_a16_96 m_XD_drawPlane_a16_116
    by_cases c : i / 4 < win
    · rw [if_pos (lw.mpr c), if_pos rfl, if_pos rfl, td_134_a16 hi hs (by omega) (by omega) (by omega)]
      exact go (pl1 c).symm
    · rw [if_neg (fun h => c (lw.mp h)), if_neg (by decide), if_neg (by decide), td_and31 (by omega) (td_w_num hi _).2, nI_add, tc_msk (n := y + td_v τ wh) (by omega) 4 (by decide), td_134_a16 hi hs (by omega) (by omega) (by omega)]
      exact go (pl2 c).symm
theorem td_a16 {τ s : tc_S} (hi : tc_inv τ) (h2 : s.2 2 = τ.2 2) (h4 : s.2 4 = τ.2 4) (h5 : s.2 5 = τ.2 5) {y : Nat} (hy : y < 8) : ∃ s', m_XD_drawPlane_a16 s 0 (nI y) = some s' ∧ td_only 9 s s' ∧ ∀ x, x < 16 → s'.2 9 x = nI (td_pl τ y 0 x) := by
  have rb := td_rg (s := s) hi h5 (show (2 + 2 * 0 : Int32).toNatClampNeg = 2 from rfl)
  have r3 := td_rg (s := s) hi h5 (show (3 : Int32).toNatClampNeg = 3 from rfl)
  have r13 := td_rg (s := s) hi h5 (show (13 : Int32).toNatClampNeg = 13 from rfl)
  have vg := td_vg (s := s) hi h4 (show (0 : Int32).toNatClampNeg = 0 from rfl)
  have ea : ((tc_ga s 5 13 &&& 31) * 16) + 0 = nI (td_r τ 13 % 32 * 16 + 0) := by
    rw [r13.1, tc_msk (n := td_r τ 13) (by omega) 5 (by decide), show nI (td_r τ 13 % 2 ^ 5) * 16 = nI (td_r τ 13 % 2 ^ 5 * 16) from pk_mul _ 16]
    exact nI_add _ 0
  have eb : (tc_ga s 5 (2 + 2 * 0) &&& 15) * 32 = nI (td_r τ (2 + 2 * 0) % 16 * 32) := by
    rw [rb.1, tc_msk (n := td_r τ 2) (by omega) 4 (by decide)]
    exact pk_mul _ 32
  have e3 : tc_ga s 5 3 &&& 7 = nI (td_r τ 3 % 8) := by
    rw [r3.1]; exact tc_msk (by omega) 3 (by decide)
  have g1 : ∀ (z : Option tc_S), tc_gd (2 + 2 * 0) 16 z = z := fun z => rfl
  have g2 : ∀ (z : Option tc_S), tc_gd 13 16 z = z := fun z => rfl
  have g3 : ∀ (z : Option tc_S), tc_gd 0 2 z = z := fun z => rfl
  have g4 : ∀ (z : Option tc_S), tc_gd 3 16 z = z := fun z => rfl
  have := td_L_a16 hi (wh := 0) (win := td_r τ 3 % 8) hy (by rfl) 16 2000 s 0 (by omega) (by omega) h2 (fun x hx => absurd hx (Nat.not_lt_zero x))
  unfold m_XD_drawPlane_a16 m_XD_drawPlane_a16_70
  rw [g1, g2, ea, td_wc hi h2 (by omega), tc_bs, g3]
  simp only [eb, vg.1, e3]
  rw [if_pos trivial, g4]
  exact this
theorem td_134_a17 {τ s : tc_S} (hi : tc_inv τ) (hs : s.2 2 = τ.2 2) {Z : tc_S → Int32 → Int32 → Int32 → Int32 → Int32 → Int32 → Option (tc_S)} {l3 l5 l6 l7 : Int32} {bs X Y i : Nat} (hX : X < 32) (hY : Y < 16) (hi16 : i < 16) : m_XD_drawPlane_a17_134 Z s l3 (nI (bs % 16 * 32)) l5 l6 l7 (nI i) (nI X) (nI Y) = Z (tc_sa s 10 (nI i) (nI (td_pp τ bs X Y))) l3 (nI (bs % 16 * 32)) l5 l6 l7 (nI (i + 1)) := by
  have e1 : (nI (bs % 16 * 32) + ((nI Y / 4) * 8)) + (nI X / 4) = nI (bs % 16 * 32 + Y / 4 * 8 + X / 4) := by
    rw [tc_div (n := Y) (D := 4) (d := 4) rfl (by omega) (by decide) (by decide), tc_div (n := X) (D := 4) (d := 4) rfl (by omega) (by decide) (by decide), show nI (Y / 4) * 8 = nI (Y / 4 * 8) from pk_mul _ 8, nI_add, nI_add]
  have e2 : nI X &&& 3 = nI (X % 4) := tc_msk (by omega) 2 (by decide)
  have e3 : nI Y &&& 3 = nI (Y % 4) := tc_msk (by omega) 2 (by decide)
  unfold m_XD_drawPlane_a17_134
  rw [e1, td_wc hi hs (by omega), tc_bs]
  simp only [e2, e3]
  rw [td_dot_c hi hs (td_w_num hi _).2 (by omega) (by omega), tc_bs, tc_gd_nI hi16 (by decide), nI_1]
  rfl
theorem td_L_a17 {τ : tc_S} (hi : tc_inv τ) {y wh win : Nat} (hy : y < 8) (hwin : win = if wh = 0 then td_r τ 3 % 8 else 0) : ∀ (k f : Nat) (s : tc_S) (i : Nat), i + k = 16 → k < f → s.2 2 = τ.2 2 → (∀ x, x < i → s.2 10 x = nI (td_pl τ y wh x)) → ∃ s', m_XD_drawPlane_a17_75 f s (nI y) (nI (td_r τ (2 + 2 * wh) % 16 * 32)) (nI (td_w τ (td_r τ 13 % 32 * 16 + wh))) (nI (td_v τ wh)) (nI win) (nI i) = some s' ∧ td_only 10 s s' ∧ ∀ x, x < 16 → s'.2 10 x = nI (td_pl τ y wh x) := by
  have hwin8 : win < 8 := by rw [hwin]; split <;> omega
  have hV : td_v τ wh < 65536 := (td_num (hi.2 4 wh) (by decide)).2
  intro k
  induction k with
  | zero =>
    intro f s i hik hf hs hx
    obtain ⟨f, rfl⟩ : ∃ g, f = g + 1 := ⟨f - 1, by omega⟩
    have hik : i = 16 := hik
    subst hik
    unfold m_XD_drawPlane_a17_75
    rw [if_pos (show (16 : Int32) ≤ nI 16 by decide)]
    exact ⟨s, rfl, ⟨rfl, fun _ _ => rfl⟩, hx⟩
  | succ k ih =>
    intro f s i hik hf hs hx
    obtain ⟨f, rfl⟩ : ∃ g, f = g + 1 := ⟨f - 1, by omega⟩
    have hci : ¬ (16 : Int32) ≤ nI i := nI_ge (b := 16) (by omega) (by decide)
    have ex : nI i / 4 = nI (i / 4) := tc_div (D := 4) (d := 4) rfl (by omega) (by decide) (by decide)
    have lw : nI (i / 4) < nI win ↔ i / 4 < win := nI_ltI (by omega) (by omega)
    have go : ∀ {v : Nat}, v = td_pl τ y wh i → ∃ s', m_XD_drawPlane_a17_75 f (tc_sa s 10 (nI i) (nI v)) (nI y) (nI (td_r τ (2 + 2 * wh) % 16 * 32)) (nI (td_w τ (td_r τ 13 % 32 * 16 + wh))) (nI (td_v τ wh)) (nI win) (nI (i + 1)) = some s' ∧ td_only 10 s s' ∧ ∀ x, x < 16 → s'.2 10 x = nI (td_pl τ y wh x) := by
      intro v hv
      obtain ⟨s', e, ⟨o1, o2⟩, o3⟩ := ih f (tc_sa s 10 (nI i) (nI v)) (i + 1) (by omega) (by omega) hs (by
        intro x hx1
        rw [tc_sa2, if_pos rfl, tc_clamp (by omega)]
        unfold upd
        by_cases e : x = i
        · rw [if_pos e, hv, e]
        · rw [if_neg e]; exact hx x (by omega))
      exact ⟨s', e, ⟨o1, fun j hj => (o2 j hj).trans (tc_sa_ne _ _ _ hj)⟩, o3⟩
    have pl1 : i / 4 < win → td_pl τ y wh i = td_pp τ (td_r τ (2 + 2 * wh)) i y := by
      intro c
      unfold td_pl
      by_cases hw0 : wh = 0
      · rw [if_pos hw0] at hwin
        rw [if_pos ⟨hw0, by omega⟩]
      · rw [if_neg hw0] at hwin; omega
    have pl2 : ¬ i / 4 < win → td_pl τ y wh i = td_pp τ (td_r τ (2 + 2 * wh)) ((i + 65536 - td_w τ (td_r τ 13 % 32 * 16 + wh)) % 32) ((y + td_v τ wh) % 16) := by
      intro c
      unfold td_pl
      by_cases hw0 : wh = 0
      · rw [if_pos hw0] at hwin
        rw [if_neg (by omega)]
      · rw [if_neg (by omega)]
    unfold m_XD_drawPlane_a17_75
    rw [if_neg hci, ex]
    unfold m_XD_drawPlane_a17_96 m_XD_drawPlane_a17_116
    by_cases c : i / 4 < win
    · rw [if_pos (lw.mpr c), if_pos rfl, if_pos rfl, td_134_a17 hi hs (by omega) (by omega) (by omega)]
      exact go (pl1 c).symm
    · rw [if_neg (fun h => c (lw.mp h)), if_neg (by decide), if_neg (by decide), td_and31 (by omega) (td_w_num hi _).2, nI_add, tc_msk (n := y + td_v τ wh) (by omega) 4 (by decide), td_134_a17 hi hs (by omega) (by omega) (by omega)]
      exact go (pl2 c).symm
theorem td_a17 {τ s : tc_S} (hi : tc_inv τ) (h2 : s.2 2 = τ.2 2) (h4 : s.2 4 = τ.2 4) (h5 : s.2 5 = τ.2 5) {y : Nat} (hy : y < 8) : ∃ s', m_XD_drawPlane_a17 s 1 (nI y) = some s' ∧ td_only 10 s s' ∧ ∀ x, x < 16 → s'.2 10 x = nI (td_pl τ y 1 x) := by
  have rb := td_rg (s := s) hi h5 (show (2 + 2 * 1 : Int32).toNatClampNeg = 4 from rfl)
  have r3 := td_rg (s := s) hi h5 (show (3 : Int32).toNatClampNeg = 3 from rfl)
  have r13 := td_rg (s := s) hi h5 (show (13 : Int32).toNatClampNeg = 13 from rfl)
  have vg := td_vg (s := s) hi h4 (show (1 : Int32).toNatClampNeg = 1 from rfl)
  have ea : ((tc_ga s 5 13 &&& 31) * 16) + 1 = nI (td_r τ 13 % 32 * 16 + 1) := by
    rw [r13.1, tc_msk (n := td_r τ 13) (by omega) 5 (by decide), show nI (td_r τ 13 % 2 ^ 5) * 16 = nI (td_r τ 13 % 2 ^ 5 * 16) from pk_mul _ 16]
    exact nI_add _ 1
  have eb : (tc_ga s 5 (2 + 2 * 1) &&& 15) * 32 = nI (td_r τ (2 + 2 * 1) % 16 * 32) := by
    rw [rb.1, tc_msk (n := td_r τ 4) (by omega) 4 (by decide)]
    exact pk_mul _ 32
  have e3 : tc_ga s 5 3 &&& 7 = nI (td_r τ 3 % 8) := by
    rw [r3.1]; exact tc_msk (by omega) 3 (by decide)
  have g1 : ∀ (z : Option tc_S), tc_gd (2 + 2 * 1) 16 z = z := fun z => rfl
  have g2 : ∀ (z : Option tc_S), tc_gd 13 16 z = z := fun z => rfl
  have g3 : ∀ (z : Option tc_S), tc_gd 1 2 z = z := fun z => rfl
  have g4 : ∀ (z : Option tc_S), tc_gd 3 16 z = z := fun z => rfl
  have := td_L_a17 hi (wh := 1) (win := 0) hy (by rfl) 16 2000 s 0 (by omega) (by omega) h2 (fun x hx => absurd hx (Nat.not_lt_zero x))
  unfold m_XD_drawPlane_a17 m_XD_drawPlane_a17_70
  rw [g1, g2, ea, td_wc hi h2 (by omega), tc_bs, g3]
  simp only [eb, vg.1, e3]
  rw [if_neg (by decide)]
  exact this
