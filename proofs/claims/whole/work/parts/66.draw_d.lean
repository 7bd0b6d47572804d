theorem ti_sac (a b c : Int32) : (a - b) + c = (a + c) - b := by
  rw [Int32.sub_eq_add_neg, Int32.sub_eq_add_neg, Int32.add_assoc, Int32.add_comm (-b) c, ← Int32.add_assoc]
def td_sp (τ : tc_S) (y k x : Nat) : Nat := if td_sw τ k 3 % 64 ≤ x + 16 ∧ x + 16 < td_sw τ k 3 % 64 + 4 then td_p τ (td_sw τ k 2) (x + 16 - td_sw τ k 3 % 64) (y + 16 - td_sw τ k 0 % 64) else 0
theorem td_sp_lt (τ : tc_S) (y k x : Nat) : td_sp τ y k x < 32 ∧ td_sp τ y k x ≠ 16 := by
  unfold td_sp
  split
  · exact td_p_lt _ _ _ _
  · exact ⟨by decide, by decide⟩
def td_fi (τ : tc_S) (y : Nat) (q : Nat → Nat) : Nat → Nat → Nat
  | 0, _ => 0
  | n + 1, x => if td_fi τ y q n x = 0 then td_sp τ y (q n) x else td_fi τ y q n x
theorem td_fi_lt (τ : tc_S) (y : Nat) (q : Nat → Nat) : ∀ n x, td_fi τ y q n x < 32 ∧ td_fi τ y q n x ≠ 16 := by
  intro n x
  induction n with
  | zero => exact ⟨by show 0 < 32; decide, by show (0 : Nat) ≠ 16; decide⟩
  | succ n ih =>
    show (if td_fi τ y q n x = 0 then td_sp τ y (q n) x else td_fi τ y q n x) < 32 ∧ (if td_fi τ y q n x = 0 then td_sp τ y (q n) x else td_fi τ y q n x) ≠ 16
    split
    · exact td_sp_lt _ _ _ _
    · exact ih
def td_is (v : Int32) (P : Prop) : Prop := (v = 1 ∧ P) ∨ (v = 0 ∧ ¬ P)
theorem td_is_iff {v : Int32} {P Q : Prop} (h : td_is v P) (e : P ↔ Q) : td_is v Q := by
  rcases h with ⟨h1, h2⟩ | ⟨h1, h2⟩
  · exact Or.inl ⟨h1, e.mp h2⟩
  · exact Or.inr ⟨h1, fun k => h2 (e.mpr k)⟩
theorem td_is_eq {v u : Int32} {P Q : Prop} (h : td_is v P) (k : td_is u Q) (e : P ↔ Q) : v = u := by
  rcases h with ⟨h1, h2⟩ | ⟨h1, h2⟩ <;> rcases k with ⟨k1, k2⟩ | ⟨k1, k2⟩
  · rw [h1, k1]
  · exact absurd (e.mp h2) k2
  · exact absurd (e.mpr k2) h2
  · rw [h1, k1]
theorem td_is_B {v : Int32} {P : Prop} (h : td_is v P) : tc_B 2 v := by
  rcases h with ⟨h1, _⟩ | ⟨h1, _⟩
  · rw [h1]; exact tc_B_1 (by decide)
  · rw [h1]; exact tc_B_0 (by decide)
/-- a hit at x by the sprites from j to n -/
def td_cx (τ : tc_S) (y : Nat) (q : Nat → Nat) (j n x : Nat) : Prop := ∃ i, j ≤ i ∧ i < n ∧ td_sp τ y (q i) x ≠ 0 ∧ td_fi τ y q i x ≠ 0
theorem td_spx {τ t : tc_S} (hi : tc_inv τ) (h2 : t.2 2 = τ.2 2) (h5 : t.2 5 = τ.2 5) {y k x : Nat} (hy : y < 8) (hg : tc_gf t 27 = nI y) (hk : k < 8) (ho : td_on τ y k = true) (hx : x < 16) : m_XR_spritePixel t (nI k) (nI x) = some (nI (td_sp τ y k x), t) := by
  have ho' : td_sw τ k 0 % 64 ≤ y + 16 ∧ y + 16 < td_sw τ k 0 % 64 + 4 := by
    unfold td_on at ho
    simpa using ho
  have hs0 := td_spw hi h2 h5 hk (w := 0) (by decide)
  rw [show nI 0 = (0 : Int32) from rfl] at hs0
  have hs3 := td_spw hi h2 h5 hk (w := 3) (by decide)
  rw [show nI 3 = (3 : Int32) from rfl] at hs3
  have hs2 := td_spw hi h2 h5 hk (w := 2) (by decide)
  rw [show nI 2 = (2 : Int32) from rfl] at hs2
  unfold m_XR_spritePixel m_XR_spritePixel_43 m_XR_spritePixel_60
  rw [hs3, tc_bs]
  simp only []
  rw [hs0, tc_bs]
  simp only [hg, td_m63 (td_sw_lt hi k 0), td_m63 (td_sw_lt hi k 3), show nI y + 16 = nI (y + 16) from nI_add y 16, show nI x + 16 = nI (x + 16) from nI_add x 16]
  have l1 := td_lt0 (a := x + 16) (c := td_sw τ k 3 % 64) (by omega) (by omega)
  have l2 := td_le (a := x + 16) (c := td_sw τ k 3 % 64) (show (3 : Int32) = nI 3 from rfl) (by omega) (by omega) (by decide)
  unfold td_sp
  by_cases c1 : x + 16 < td_sw τ k 3 % 64
  · rw [if_pos (l1.mpr c1), if_neg (by omega)]; rfl
  rw [if_neg (fun h => c1 (l1.mp h))]
  by_cases c2 : x + 16 ≤ td_sw τ k 3 % 64 + 3
  · rw [if_pos (l2.mpr c2), if_pos ⟨by omega, by omega⟩, hs2, tc_bs]
    simp only []
    rw [pk_sub (a := x + 16) (b := td_sw τ k 3 % 64) (by omega), pk_sub (a := y + 16) (b := td_sw τ k 0 % 64) ho'.1, td_dot_r hi h2 (td_sw_lt hi k 2) (by omega) (by omega), tc_bs]
  · rw [if_neg (fun h => c2 (l2.mp h)), if_neg (by omega)]; rfl
theorem td_at {τ : tc_S} (hi : tc_inv τ) {y cnt x : Nat} {q : Nat → Nat} (hy : y < 8) (hx : x < 16) (hc : cnt ≤ 3) (hq : ∀ j, j < cnt → q j < 8 ∧ td_on τ y (q j) = true) : ∀ (m f : Nat) (t : tc_S) (j : Nat) (Pr : Prop), j + m = cnt → m < f → t.2 2 = τ.2 2 → t.2 5 = τ.2 5 → tc_gf t 27 = nI y → tc_gf t 36 = nI cnt → (∀ i, i < cnt → t.2 12 i = nI (q i)) → td_is (tc_gf t 25) Pr →
    ∃ t', m_XR_spriteAt_4 f t (nI x) (nI (td_fi τ y q j x)) (nI j) = some (nI (td_fi τ y q cnt x), t') ∧ t'.2 = t.2 ∧ (∀ k, k ≠ 25 → tc_gf t' k = tc_gf t k) ∧ td_is (tc_gf t' 25) (Pr ∨ td_cx τ y q j cnt x) := by
  intro m
  induction m with
  | zero =>
    intro f t j Pr hjm hf h2 h5 h27 h36 h12 his
    obtain ⟨f, rfl⟩ : ∃ g, f = g + 1 := ⟨f - 1, by omega⟩
    have hjm : j = cnt := hjm
    subst hjm
    unfold m_XR_spriteAt_4
    rw [h36, if_pos (Int32.le_refl _)]
    refine ⟨t, rfl, rfl, fun _ _ => rfl, td_is_iff his ⟨Or.inl, fun h => ?_⟩⟩
    rcases h with h | ⟨i, h1, h2, _⟩
    · exact h
    · omega
  | succ m ih =>
    intro f t j Pr hjm hf h2 h5 h27 h36 h12 his
    obtain ⟨f, rfl⟩ : ∃ g, f = g + 1 := ⟨f - 1, by omega⟩
    obtain ⟨hq1, hq2⟩ := hq j (by omega)
    have e12 : tc_ga t 12 (nI j) = nI (q j) := by unfold tc_ga; rw [tc_clamp (by omega)]; exact h12 j (by omega)
    have hs := td_sp_lt τ y (q j) x
    have hf' := td_fi_lt τ y q j x
    have p0 : ∀ v : Nat, v < 32 → ((nI v ≤ 0) ↔ v = 0) := fun v hv => by
      have := nI_leI (a := v) (b := 0) (by omega) (by decide)
      rw [show nI 0 = (0 : Int32) from rfl] at this
      rw [this]; omega
    have z0 : ∀ v : Nat, v < 32 → ((nI v = 0) ↔ v = 0) := fun v hv => tc_eqN (a := 0) rfl (by decide) (by omega)
    have fi1 : (if td_fi τ y q j x = 0 then td_sp τ y (q j) x else td_fi τ y q j x) = td_fi τ y q (j + 1) x := rfl
    have goal : ∀ (b : Int32), td_is b (Pr ∨ (td_sp τ y (q j) x ≠ 0 ∧ td_fi τ y q j x ≠ 0)) → ∃ t', m_XR_spriteAt_47 (m_XR_spriteAt_4 f) t (nI x) (nI (td_fi τ y q j x)) (nI j) (nI (td_sp τ y (q j) x)) b = some (nI (td_fi τ y q cnt x), t') ∧ t'.2 = t.2 ∧ (∀ k, k ≠ 25 → tc_gf t' k = tc_gf t k) ∧ td_is (tc_gf t' 25) (Pr ∨ td_cx τ y q j cnt x) := by
      intro b hb
      obtain ⟨t', k1, k2, k3, k4⟩ := ih f (tc_sf t 25 b) (j + 1) (Pr ∨ (td_sp τ y (q j) x ≠ 0 ∧ td_fi τ y q j x ≠ 0)) (by omega) (by omega) h2 h5 h27 h36 h12 hb
      have hb01 : b = 0 ∨ b = 1 := by
        rcases hb with ⟨h, _⟩ | ⟨h, _⟩
        · exact Or.inr h
        · exact Or.inl h
      have res : td_is (tc_gf t' 25) (Pr ∨ td_cx τ y q j cnt x) := by
        refine td_is_iff k4 ⟨fun h => ?_, fun h => ?_⟩
        · rcases h with (h | h) | ⟨i, a1, a2, a3⟩
          · exact Or.inl h
          · exact Or.inr ⟨j, Nat.le_refl _, by omega, h⟩
          · exact Or.inr ⟨i, by omega, a2, a3⟩
        · rcases h with h | ⟨i, a1, a2, a3⟩
          · exact Or.inl (Or.inl h)
          · by_cases e : i = j
            · subst e; exact Or.inl (Or.inr a3)
            · exact Or.inr ⟨i, by omega, a2, a3⟩
      refine ⟨t', ?_, k2, fun k hk => ?_, res⟩
      · unfold m_XR_spriteAt_47 m_XR_spriteAt_60 tc_gb
        rw [if_pos hb01, nI_1]
        by_cases c : td_fi τ y q j x = 0
        · rw [if_pos ((z0 _ hf'.1).mpr c)]
          rw [if_pos c] at fi1
          rw [fi1]; exact k1
        · rw [if_neg (fun h => c ((z0 _ hf'.1).mp h))]
          rw [if_neg c] at fi1
          rw [fi1]; exact k1
      · rw [k3 k hk, tc_gf_sf, if_neg hk]
    unfold m_XR_spriteAt_4
    rw [h36, if_neg (nI_ge (by omega) (by omega)), tc_gd_nI (by omega) (by decide), e12, td_spx hi h2 h5 hy h27 hq1 hq2 hx, tc_bs]
    simp only [p0 _ hs.1, p0 _ hf'.1]
    unfold m_XR_spriteAt_46 m_XR_spriteAt_42
    rcases his with ⟨e25, hP⟩ | ⟨e25, hP⟩
    · rw [e25, if_neg (by decide)]
      exact goal 1 (Or.inl ⟨rfl, Or.inl hP⟩)
    · rw [e25, if_pos rfl]
      by_cases c1 : td_sp τ y (q j) x = 0
      · rw [if_pos c1]
        exact goal 0 (Or.inr ⟨rfl, fun h => by rcases h with h | h; exact hP h; exact h.1 c1⟩)
      · rw [if_neg c1]
        by_cases c2 : td_fi τ y q j x = 0
        · rw [if_pos c2]
          exact goal 0 (Or.inr ⟨rfl, fun h => by rcases h with h | h; exact hP h; exact h.2 c2⟩)
        · rw [if_neg c2]
          exact goal 1 (Or.inl ⟨rfl, Or.inr ⟨c1, c2⟩⟩)
/-! the class draws sprite by sprite -/
def td_o11 (s s' : tc_S) : Prop := (∀ j, j ≠ 11 → s'.2 j = s.2 j) ∧ ∀ k, k ≠ 25 → tc_gf s' k = tc_gf s k
theorem td_col {τ : tc_S} (hi : tc_inv τ) {y k n : Nat} {q : Nat → Nat} (hy : y < 8) (hk : k = q n) (ho : td_on τ y k = true) {Pr : Prop} : ∀ (m f : Nat) (s : tc_S) (c : Nat), c + m = 4 → m < f → s.2 2 = τ.2 2 → (∀ x, x < 16 → s.2 11 x = nI (if x + 16 < td_sw τ k 3 % 64 + c then td_fi τ y q (n + 1) x else td_fi τ y q n x)) → td_is (tc_gf s 25) (Pr ∨ ∃ x, x < 16 ∧ x + 16 < td_sw τ k 3 % 64 + c ∧ td_sp τ y k x ≠ 0 ∧ td_fi τ y q n x ≠ 0) →
    ∃ s', m_XD_drawSprite_50 f s (nI (y + 16 - td_sw τ k 0 % 64)) (nI (td_sw τ k 2)) (nI (td_sw τ k 3 % 64) - 16) (nI c) = some s' ∧ td_o11 s s' ∧ (∀ x, x < 16 → s'.2 11 x = nI (td_fi τ y q (n + 1) x)) ∧ td_is (tc_gf s' 25) (Pr ∨ ∃ x, x < 16 ∧ td_sp τ y k x ≠ 0 ∧ td_fi τ y q n x ≠ 0) := by
  have ho' : td_sw τ k 0 % 64 ≤ y + 16 ∧ y + 16 < td_sw τ k 0 % 64 + 4 := by
    unfold td_on at ho
    simpa using ho
  have fi1 : ∀ x, td_fi τ y q (n + 1) x = if td_fi τ y q n x = 0 then td_sp τ y k x else td_fi τ y q n x := fun x => by rw [hk]; rfl
  intro m
  induction m with
  | zero =>
    intro f s c hcm hf h2 h11 his
    obtain ⟨f, rfl⟩ : ∃ g, f = g + 1 := ⟨f - 1, by omega⟩
    have hcm : c = 4 := hcm
    subst hcm
    unfold m_XD_drawSprite_50
    rw [if_pos (show (4 : Int32) ≤ nI 4 by decide)]
    refine ⟨s, rfl, ⟨fun _ _ => rfl, fun _ _ => rfl⟩, fun x hx => ?_, td_is_iff his ⟨fun h => ?_, fun h => ?_⟩⟩
    · rw [h11 x hx]
      by_cases e : x + 16 < td_sw τ k 3 % 64 + 4
      · rw [if_pos e]
      · rw [if_neg e, fi1, show td_sp τ y k x = 0 from if_neg (by omega)]
        split
        · rename_i z; rw [z]
        · rfl
    · rcases h with h | ⟨x, a1, a2, a3⟩
      · exact Or.inl h
      · exact Or.inr ⟨x, a1, a3⟩
    · rcases h with h | ⟨x, a1, a3⟩
      · exact Or.inl h
      · refine Or.inr ⟨x, a1, ?_, a3⟩
        by_cases e : x + 16 < td_sw τ k 3 % 64 + 4
        · exact e
        · exact absurd (show td_sp τ y k x = 0 from if_neg (by omega)) a3.1
  | succ m ih =>
    intro f s c hcm hf h2 h11 his
    obtain ⟨f, rfl⟩ : ∃ g, f = g + 1 := ⟨f - 1, by omega⟩
    have hci : ¬ (4 : Int32) ≤ nI c := nI_ge (b := 4) (by omega) (by decide)
    have hX : td_sw τ k 3 % 64 < 64 := Nat.mod_lt _ (by decide)
    generalize hX0 : td_sw τ k 3 % 64 = X at *
    have ex : (nI X - 16) + nI c = nI (X + c) - nI 16 := by rw [ti_sac, nI_add]; rfl
    have l1 := td_lt0 (a := X + c) (c := 16) (by omega) (by decide)
    have l2 := td_ge (a := X + c) (c := 16) (show (16 : Int32) = nI 16 from rfl) (by omega) (by decide) (by decide)
    have hd := td_p_lt τ (td_sw τ k 2) c (y + 16 - td_sw τ k 0 % 64)
    have z0 : ∀ v : Nat, v < 32 → ((nI v = 0) ↔ v = 0) := fun v hv => tc_eqN (a := 0) rfl (by decide) (by omega)
    -- nothing is changed at this column
    have same : (∀ x, x < 16 → x + 16 = X + c → td_sp τ y k x = 0) → ∃ s', m_XD_drawSprite_121 (m_XD_drawSprite_50 f) s (nI (y + 16 - td_sw τ k 0 % 64)) (nI (td_sw τ k 2)) (nI X - 16) (nI c) = some s' ∧ td_o11 s s' ∧ (∀ x, x < 16 → s'.2 11 x = nI (td_fi τ y q (n + 1) x)) ∧ td_is (tc_gf s' 25) (Pr ∨ ∃ x, x < 16 ∧ td_sp τ y k x ≠ 0 ∧ td_fi τ y q n x ≠ 0) := by
      intro hz
      unfold m_XD_drawSprite_121
      rw [nI_1]
      refine ih f s (c + 1) (by omega) (by omega) h2 (fun x hx => ?_) (td_is_iff his ⟨fun h => ?_, fun h => ?_⟩)
      · rw [h11 x hx]
        by_cases e : x + 16 < X + c
        · rw [if_pos e, if_pos (by omega)]
        · rw [if_neg e]
          by_cases e2 : x + 16 = X + c
          · rw [if_pos (by omega), fi1, hz x hx e2]
            split
            · rename_i z; rw [z]
            · rfl
          · rw [if_neg (by omega)]
      · rcases h with h | ⟨x, a1, a2, a3⟩
        · exact Or.inl h
        · exact Or.inr ⟨x, a1, by omega, a3⟩
      · rcases h with h | ⟨x, a1, a2, a3⟩
        · exact Or.inl h
        · refine Or.inr ⟨x, a1, ?_, a3⟩
          by_cases e : x + 16 = X + c
          · exact absurd (hz x a1 e) a3.1
          · omega
    unfold m_XD_drawSprite_50
    rw [if_neg hci, td_dot_c hi h2 (td_sw_lt hi k 2) (by omega) (by omega), tc_bs]
    simp only [ex]
    by_cases c1 : X + c < 16
    · rw [if_pos (l1.mpr c1)]; exact same (fun x hx e => by omega)
    rw [if_neg (fun h => c1 (l1.mp h))]
    by_cases c2 : 16 + 16 ≤ X + c
    · rw [if_pos (l2.mpr c2)]; exact same (fun x hx e => by omega)
    rw [if_neg (fun h => c2 (l2.mp h))]
    have hsp : td_sp τ y k (X + c - 16) = td_p τ (td_sw τ k 2) c (y + 16 - td_sw τ k 0 % 64) := by
      unfold td_sp
      rw [hX0, if_pos ⟨by omega, by omega⟩, show X + c - 16 + 16 - X = c by omega]
    by_cases c3 : td_p τ (td_sw τ k 2) c (y + 16 - td_sw τ k 0 % 64) = 0
    · rw [if_pos ((z0 _ hd.1).mpr c3)]
      refine same (fun x hx e => ?_)
      rw [show x = X + c - 16 by omega, hsp, c3]
    rw [if_neg (fun h => c3 ((z0 _ hd.1).mp h)), show nI (X + c) - nI 16 = nI (X + c - 16) from pk_sub (by omega), tc_gd_nI (by omega) (by decide)]
    have hf' := td_fi_lt τ y q n (X + c - 16)
    have e11 : tc_ga s 11 (nI (X + c - 16)) = nI (td_fi τ y q n (X + c - 16)) := by
      unfold tc_ga
      rw [tc_clamp (by omega), h11 _ (by omega), if_neg (by omega)]
    rw [e11]
    unfold m_XD_drawSprite_121
    rw [nI_1]
    by_cases c4 : td_fi τ y q n (X + c - 16) = 0
    · rw [if_pos ((z0 _ hf'.1).mpr c4), tc_gd_nI (by omega) (by decide)]
      obtain ⟨s', k1, k2, k3, k4⟩ := ih f (tc_sa s 11 (nI (X + c - 16)) (nI (td_p τ (td_sw τ k 2) c (y + 16 - td_sw τ k 0 % 64)))) (c + 1) (by omega) (by omega) h2 (fun x hx => by
        rw [tc_sa2, if_pos rfl, tc_clamp (by omega)]
        unfold upd
        by_cases e : x = X + c - 16
        · rw [if_pos e, if_pos (by omega), fi1, e, if_pos c4, hsp]
        · rw [if_neg e, h11 x hx]
          by_cases e2 : x + 16 < X + c
          · rw [if_pos e2, if_pos (by omega)]
          · rw [if_neg e2, if_neg (by omega)]) (td_is_iff his ⟨fun h => by
        rcases h with h | ⟨x, a1, a2, a3⟩
        · exact Or.inl h
        · exact Or.inr ⟨x, a1, by omega, a3⟩, fun h => by
        rcases h with h | ⟨x, a1, a2, a3⟩
        · exact Or.inl h
        · refine Or.inr ⟨x, a1, ?_, a3⟩
          by_cases e : x = X + c - 16
          · rw [e] at a3; exact absurd c4 a3.2
          · omega⟩)
      exact ⟨s', k1, ⟨fun j hj => (k2.1 j hj).trans (tc_sa_ne _ _ _ hj), k2.2⟩, k3, k4⟩
    · rw [if_neg (fun h => c4 ((z0 _ hf'.1).mp h))]
      obtain ⟨s', k1, k2, k3, k4⟩ := ih f (tc_sf s 25 1) (c + 1) (by omega) (by omega) h2 (fun x hx => by
        rw [tc_sf2, h11 x hx]
        by_cases e2 : x + 16 < X + c
        · rw [if_pos e2, if_pos (by omega)]
        · rw [if_neg e2]
          by_cases e : x = X + c - 16
          · rw [if_pos (by omega), fi1, e, if_neg c4]
          · rw [if_neg (by omega)]) (Or.inl ⟨rfl, Or.inr ⟨X + c - 16, by omega, by omega, by rw [hsp]; exact c3, c4⟩⟩)
      refine ⟨s', k1, ⟨k2.1, fun k' hk' => ?_⟩, k3, k4⟩
      rw [k2.2 k' hk', tc_gf_sf, if_neg hk']
