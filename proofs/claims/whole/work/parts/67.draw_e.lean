theorem td_spr {τ s : tc_S} (hi : tc_inv τ) (h2 : s.2 2 = τ.2 2) {y k n : Nat} {q : Nat → Nat} (hy : y < 8) (hk : k = q n) (hk8 : k < 8) (ho : td_on τ y k = true) {Pr : Prop} (h11 : ∀ x, x < 16 → s.2 11 x = nI (td_fi τ y q n x)) (his : td_is (tc_gf s 25) Pr) :
    ∃ s', m_XD_drawSprite s (nI (td_r τ 5 % 16 * 32 + 4 * k)) (nI y) = some s' ∧ td_o11 s s' ∧ (∀ x, x < 16 → s'.2 11 x = nI (td_fi τ y q (n + 1) x)) ∧ td_is (tc_gf s' 25) (Pr ∨ ∃ x, x < 16 ∧ td_sp τ y k x ≠ 0 ∧ td_fi τ y q n x ≠ 0) := by
  have ho' : td_sw τ k 0 % 64 ≤ y + 16 ∧ y + 16 < td_sw τ k 0 % 64 + 4 := by
    unfold td_on at ho
    simpa using ho
  have w0 := td_spc hi h2 hk8 0 (by decide)
  rw [Nat.add_zero] at w0
  have w2 := td_spc hi h2 hk8 2 (by decide)
  have w3 := td_spc hi h2 hk8 3 (by decide)
  have e2 : nI (td_r τ 5 % 16 * 32 + 4 * k) + 2 = nI (td_r τ 5 % 16 * 32 + 4 * k + 2) := nI_add _ 2
  have e3 : nI (td_r τ 5 % 16 * 32 + 4 * k) + 3 = nI (td_r τ 5 % 16 * 32 + 4 * k + 3) := nI_add _ 3
  unfold m_XD_drawSprite
  rw [w0, tc_bs]
  simp only []
  rw [e2, w2, tc_bs]
  simp only []
  rw [e3, w3, tc_bs]
  simp only [td_m63 (td_sw_lt hi k 0), td_m63 (td_sw_lt hi k 3), show nI y + 16 = nI (y + 16) from nI_add y 16]
  rw [pk_sub (a := y + 16) (b := td_sw τ k 0 % 64) ho'.1]
  exact td_col hi hy hk ho 4 2000 s 0 (by omega) (by omega) h2 (fun x hx => by
    rw [h11 x hx]
    by_cases e : x + 16 < td_sw τ k 3 % 64 + 0
    · rw [if_pos e]
      show nI (td_fi τ y q n x) = nI (if td_fi τ y q n x = 0 then td_sp τ y (q n) x else td_fi τ y q n x)
      rw [← hk, show td_sp τ y k x = 0 from if_neg (by omega)]
      split
      · rename_i z; rw [z]
      · rfl
    · rw [if_neg e]) (td_is_iff his ⟨Or.inl, fun h => by
    rcases h with h | ⟨x, a1, a2, a3⟩
    · exact h
    · exact absurd (show td_sp τ y k x = 0 from if_neg (by omega)) a3.1⟩)
theorem td_29 {τ : tc_S} (hi : tc_inv τ) {y cnt : Nat} {q : Nat → Nat} (hy : y < 8) (hc : cnt ≤ 3) (hq : ∀ j, j < cnt → q j < 8 ∧ td_on τ y (q j) = true) : ∀ (m f : Nat) (s : tc_S) (j : Nat) (Pr : Prop), j + m = cnt → m < f → s.2 2 = τ.2 2 → (∀ i, i < cnt → s.2 12 i = nI (td_r τ 5 % 16 * 32 + 4 * q i)) → (∀ x, x < 16 → s.2 11 x = nI (td_fi τ y q j x)) → td_is (tc_gf s 25) Pr →
    ∃ s', m_XD_drawSprites_29 f s (nI y) (nI cnt) (nI j) = some s' ∧ td_o11 s s' ∧ (∀ x, x < 16 → s'.2 11 x = nI (td_fi τ y q cnt x)) ∧ td_is (tc_gf s' 25) (Pr ∨ ∃ x, x < 16 ∧ td_cx τ y q j cnt x) := by
  intro m
  induction m with
  | zero =>
    intro f s j Pr hjm hf h2 h12 h11 his
    obtain ⟨f, rfl⟩ : ∃ g, f = g + 1 := ⟨f - 1, by omega⟩
    have hjm : j = cnt := hjm
    subst hjm
    unfold m_XD_drawSprites_29
    rw [if_pos (Int32.le_refl _)]
    refine ⟨s, rfl, ⟨fun _ _ => rfl, fun _ _ => rfl⟩, h11, td_is_iff his ⟨Or.inl, fun h => ?_⟩⟩
    rcases h with h | ⟨x, _, i, a1, a2, _⟩
    · exact h
    · omega
  | succ m ih =>
    intro f s j Pr hjm hf h2 h12 h11 his
    obtain ⟨f, rfl⟩ : ∃ g, f = g + 1 := ⟨f - 1, by omega⟩
    obtain ⟨hq1, hq2⟩ := hq j (by omega)
    have e12 : tc_ga s 12 (nI j) = nI (td_r τ 5 % 16 * 32 + 4 * q j) := by unfold tc_ga; rw [tc_clamp (by omega)]; exact h12 j (by omega)
    obtain ⟨s1, k1, k2, k3, k4⟩ := td_spr hi h2 (n := j) (q := q) hy rfl hq1 hq2 h11 his
    obtain ⟨s', r1, r2, r3, r4⟩ := ih f s1 (j + 1) _ (by omega) (by omega) ((k2.1 2 (by decide)).trans h2) (fun i hi' => by rw [k2.1 12 (by decide)]; exact h12 i hi') k3 k4
    unfold m_XD_drawSprites_29
    rw [if_neg (nI_ge (by omega) (by omega)), tc_gd_nI (by omega) (by decide), e12, k1, tc_bs, nI_1]
    refine ⟨s', r1, ⟨fun i hi' => (r2.1 i hi').trans (k2.1 i hi'), fun i hi' => (r2.2 i hi').trans (k2.2 i hi')⟩, r3, td_is_iff r4 ⟨fun h => ?_, fun h => ?_⟩⟩
    · rcases h with (h | ⟨x, a1, a2⟩) | ⟨x, a1, i, a2, a3, a4⟩
      · exact Or.inl h
      · exact Or.inr ⟨x, a1, j, Nat.le_refl _, by omega, a2⟩
      · exact Or.inr ⟨x, a1, i, by omega, a3, a4⟩
    · rcases h with h | ⟨x, a1, i, a2, a3, a4⟩
      · exact Or.inl (Or.inl h)
      · by_cases e : i = j
        · subst e; exact Or.inl (Or.inr ⟨x, a1, a4⟩)
        · exact Or.inr ⟨x, a1, i, by omega, a3, a4⟩
/-! the sprites of a line -/
def td_R (τ : tc_S) (y : Nat) : Nat × (Nat → Nat) × Bool := td_tk τ y 8 0 0 (fun _ => 0)
theorem td_R_ok (τ : tc_S) (y : Nat) : (td_R τ y).1 ≤ 3 ∧ ∀ j, j < (td_R τ y).1 → (td_R τ y).2.1 j < 8 ∧ td_on τ y ((td_R τ y).2.1 j) = true := td_tk_ok τ y 8 0 0 _ (by decide) (by decide) (fun j hj => absurd hj (Nat.not_lt_zero j))
theorem td_spf {τ : tc_S} (hi : tc_inv τ) {y : Nat} (hy : y < 8) {Pr : Prop} : ∀ (k f : Nat) (s : tc_S) (i : Nat), i + k = 16 → k < f → s.2 2 = τ.2 2 → s.2 5 = τ.2 5 → (∀ x, x < i → s.2 11 x = 0) → td_is (tc_gf s 25) Pr →
    ∃ s', m_XD_drawSprites_2 f s (nI y) (nI i) = some s' ∧ (∀ j, j ≠ 11 → j ≠ 12 → s'.2 j = s.2 j) ∧ (∀ k, k ≠ 25 → k ≠ 26 → tc_gf s' k = tc_gf s k) ∧ tc_gf s' 26 = (if (td_R τ y).2.2 = true then 1 else tc_gf s 26) ∧ (∀ x, x < 16 → s'.2 11 x = nI (td_fi τ y (td_R τ y).2.1 (td_R τ y).1 x)) ∧ td_is (tc_gf s' 25) (Pr ∨ ∃ x, x < 16 ∧ td_cx τ y (td_R τ y).2.1 0 (td_R τ y).1 x) := by
  intro k
  induction k with
  | zero =>
    intro f s i hik hf h2 h5 h11 his
    obtain ⟨f, rfl⟩ : ∃ g, f = g + 1 := ⟨f - 1, by omega⟩
    have hik : i = 16 := hik
    subst hik
    have r5 := td_rg (s := s) hi h5 (show (5 : Int32).toNatClampNeg = 5 from rfl)
    have et : (tc_ga s 5 5 &&& 15) * 32 = nI (td_r τ 5 % 16 * 32) := by
      rw [r5.1, tc_msk (n := td_r τ 5) (by omega) 4 (by decide)]
      exact pk_mul _ 32
    have g5 : ∀ (z : Option (Int32 × tc_S)), tc_gd 5 16 z = z := fun z => rfl
    obtain ⟨s1, k1, k2, k3, k4⟩ := td_take_c hi hy 8 2000 s 0 0 0 (fun _ => 0) (by omega) (by omega) h2 (by decide) (by decide) (fun j hj => absurd hj (Nat.not_lt_zero j))
    have e25 : tc_gf s1 25 = tc_gf s 25 := by
      unfold tc_gf
      rw [k3]
      split <;> rfl
    obtain ⟨s', r1, r2, r3, r4⟩ := td_29 hi hy (td_R_ok τ y).1 (td_R_ok τ y).2 (td_R τ y).1 2000 s1 0 Pr (by omega) (by have := (td_R_ok τ y).1; omega) ((k2 2 (by decide)).trans h2) k4 (fun x hx => by rw [k2 11 (by decide)]; exact h11 x hx) (by rw [e25]; exact his)
    unfold m_XD_drawSprites_2 m_XD_takeSprites
    rw [if_pos (show (16 : Int32) ≤ nI 16 by decide), g5, et]
    rw [show nI 0 = (0 : Int32) from rfl] at k1
    rw [k1, tc_bs]
    refine ⟨s', r1, fun j h1 h2 => (r2.1 j h1).trans (k2 j h2), fun k h1 h2 => ?_, ?_, r3, r4⟩
    · rw [r2.2 k h1]
      unfold tc_gf
      rw [k3]
      split
      · show upd s.1 26 1 k = _
        unfold upd
        rw [if_neg h2]
      · rfl
    · rw [r2.2 26 (by decide)]
      show s1.1 26 = _
      rw [k3]
      show (if (td_R τ y).2.2 = true then upd s.1 26 1 else s.1) 26 = _
      split <;> rfl
  | succ k ih =>
    intro f s i hik hf h2 h5 h11 his
    obtain ⟨f, rfl⟩ : ∃ g, f = g + 1 := ⟨f - 1, by omega⟩
    have hci : ¬ (16 : Int32) ≤ nI i := nI_ge (b := 16) (by omega) (by decide)
    obtain ⟨s', r1, r2, r3⟩ := ih f (tc_sa s 11 (nI i) 0) (i + 1) (by omega) (by omega) h2 h5 (fun x hx => by
      rw [tc_sa2, if_pos rfl, tc_clamp (by omega)]
      unfold upd
      by_cases e : x = i
      · rw [if_pos e]
      · rw [if_neg e]; exact h11 x (by omega)) his
    unfold m_XD_drawSprites_2
    rw [if_neg hci, tc_gd_nI (by omega) (by decide), nI_1]
    exact ⟨s', r1, fun j h1 h2 => (r2 j h1 h2).trans (tc_sa_ne _ _ _ h1), r3⟩
/-! the picture's line -/
def td_fr (t u w : Nat) : Nat := if 16 < t then t else if 16 < u then u else if 16 < w then w else if t ≠ 0 then t else if u ≠ 0 then u else w
def td_sn (τ : tc_S) : Bool := decide (td_r τ 1 / 64 % 2 = 1)
def td_fc (τ : tc_S) (y x : Nat) : Nat := td_fr (td_fi τ y (td_R τ y).2.1 (td_R τ y).1 x) (td_pl τ y 0 x) (td_pl τ y 1 x)
def td_cl (τ : tc_S) (y x : Nat) : Nat := if td_sn τ = true then (if td_fc τ y x = 0 then td_r τ 7 % 16 else td_fc τ y x % 16) else td_r τ 7 % 16
def td_scr (p : Nat → Int32) (y n : Nat) (col : Nat → Nat) : Nat → Int32 := fun i => if 16 * y ≤ i ∧ i < 16 * y + n then nI (col (i - 16 * y)) else p i
theorem td_scr_0 (p : Nat → Int32) (y : Nat) (col : Nat → Nat) : td_scr p y 0 col = p := by
  funext i
  unfold td_scr
  rw [if_neg (by omega)]
theorem td_scr_s (p : Nat → Int32) (y n : Nat) (col : Nat → Nat) : upd (td_scr p y n col) (16 * y + n) (nI (col n)) = td_scr p y (n + 1) col := by
  funext i
  unfold td_scr upd
  by_cases e : i = 16 * y + n
  · rw [if_pos e, if_pos (by omega), show i - 16 * y = n by omega]
  · rw [if_neg e]
    show (if 16 * y ≤ i ∧ i < 16 * y + n then nI (col (i - 16 * y)) else p i) = _
    by_cases c : 16 * y ≤ i ∧ i < 16 * y + n
    · rw [if_pos c, if_pos (by omega)]
    · rw [if_neg c, if_neg (by omega)]
def td_hit (τ : tc_S) (y : Nat) : Prop := td_sn τ = true ∧ ∃ x, x < 16 ∧ td_cx τ y (td_R τ y).2.1 0 (td_R τ y).1 x
def td_res (τ σ s : tc_S) (y : Nat) (Pr : Prop) : Prop := (∀ k, k ≠ 25 → k ≠ 26 → k ≠ 36 → tc_gf s k = tc_gf σ k) ∧ (∀ j, j ≠ 6 → j < 9 → s.2 j = σ.2 j) ∧ s.2 6 = td_scr (σ.2 6) y 16 (td_cl τ y) ∧ td_is (tc_gf s 25) (Pr ∨ td_hit τ y) ∧ tc_gf s 26 = (if td_sn τ = true ∧ (td_R τ y).2.2 = true then 1 else tc_gf σ 26)
theorem td_fr_lt {t u w : Nat} (ht : t < 32 ∧ t ≠ 16) (hu : u < 32 ∧ u ≠ 16) (hw : w < 32 ∧ w ≠ 16) : td_fr t u w < 32 := by
  unfold td_fr
  repeat' split
  all_goals omega
theorem td_fore (s : tc_S) {t u w : Nat} (ht : t < 32 ∧ t ≠ 16) (hu : u < 32 ∧ u ≠ 16) (hw : w < 32 ∧ w ≠ 16) : m_XD_foremost s (nI t) (nI u) (nI w) = some (nI (td_fr t u w), s) := by
  have l : ∀ v : Nat, v < 32 → ((nI v ≤ (16 : Int32)) ↔ ¬ 16 < v) := fun v hv => by
    rw [show (16 : Int32) = nI 16 from rfl, nI_leI (by omega) (by decide)]; omega
  have z : ∀ v : Nat, v < 32 → ((nI v = 0) ↔ ¬ v ≠ 0) := fun v hv => by
    rw [tc_eqN (x := 0) (a := 0) rfl (by decide) (by omega)]; omega
  unfold m_XD_foremost m_XD_foremost_39 td_fr
  simp only [l t ht.1, l u hu.1, l w hw.1, z t ht.1, z u hu.1]
  by_cases c1 : 16 < t
  · simp only [c1, not_true, if_true, if_false]
  · by_cases c2 : 16 < u
    · simp only [c1, c2, not_true, not_false_eq_true, if_true, if_false]
    · by_cases c3 : 16 < w
      · simp only [c1, c2, c3, not_true, not_false_eq_true, if_true, if_false]
      · by_cases c4 : t ≠ 0
        · simp only [c1, c2, c3, c4, not_true, not_false_eq_true, if_true, if_false, ne_eq]
        · by_cases c5 : u ≠ 0
          · simp only [c1, c2, c3, c4, c5, not_true, not_false_eq_true, if_true, if_false, ne_eq]
          · simp only [c1, c2, c3, c4, c5, not_true, not_false_eq_true, if_true, if_false, ne_eq]
