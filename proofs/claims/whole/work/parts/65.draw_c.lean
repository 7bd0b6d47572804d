/-! sprites -/
def td_sw (τ : tc_S) (k w : Nat) : Nat := td_w τ (td_r τ 5 % 16 * 32 + 4 * k + w)
def td_on (τ : tc_S) (y k : Nat) : Bool := decide (td_sw τ k 0 % 64 ≤ y + 16) && decide (y + 16 < td_sw τ k 0 % 64 + 4)
theorem td_lt0 {a c : Nat} (ha : a < 2 ^ 20) (hc : c < 2 ^ 20) : (nI a - nI c < 0) ↔ a < c := by
  rw [Int32.lt_iff_toInt_lt, pk_sub_toInt (by omega) (by omega), show (0 : Int32).toInt = 0 from rfl]; omega
theorem td_ge {a c k : Nat} {K : Int32} (hK : K = nI k) (ha : a < 2 ^ 20) (hc : c < 2 ^ 20) (hk : k < 2 ^ 20) : (K ≤ nI a - nI c) ↔ c + k ≤ a := by
  subst hK
  rw [Int32.le_iff_toInt_le, pk_sub_toInt (by omega) (by omega), nI_toInt (by omega)]; omega
theorem td_le {a c k : Nat} {K : Int32} (hK : K = nI k) (ha : a < 2 ^ 20) (hc : c < 2 ^ 20) (hk : k < 2 ^ 20) : (nI a - nI c ≤ K) ↔ a ≤ c + k := by
  subst hK
  rw [Int32.le_iff_toInt_le, pk_sub_toInt (by omega) (by omega), nI_toInt (by omega)]; omega
theorem td_spw {τ s : tc_S} (hi : tc_inv τ) (h2 : s.2 2 = τ.2 2) (h5 : s.2 5 = τ.2 5) {k w : Nat} (hk : k < 8) (hw : w < 4) : m_XR_spriteWord s (nI k) (nI w) = some (nI (td_sw τ k w), s) := by
  have r5 := td_rg (s := s) hi h5 (show (5 : Int32).toNatClampNeg = 5 from rfl)
  have ea : ((((tc_ga s 5 5) &&& 15) * 32) + (4 * nI k)) + nI w = nI (td_r τ 5 % 16 * 32 + 4 * k + w) := by
    rw [r5.1, tc_msk (n := td_r τ 5) (by omega) 4 (by decide), show nI (td_r τ 5 % 2 ^ 4) * 32 = nI (td_r τ 5 % 2 ^ 4 * 32) from pk_mul _ 32, show 4 * nI k = nI (4 * k) from pk_mul 4 k, nI_add, nI_add]
  have em : nI (td_r τ 5 % 16 * 32 + 4 * k + w) - nI (td_r τ 5 % 16 * 32 + 4 * k + w) / 512 * 512 = nI ((td_r τ 5 % 16 * 32 + 4 * k + w) % 512) := tc_mod (D := 512) (d := 512) rfl (by omega) (by decide) (by decide)
  have g5 : ∀ (z : Option (Int32 × tc_S)), tc_gd 5 16 z = z := fun z => rfl
  unfold m_XR_spriteWord
  rw [g5, ea, em, td_wr hi h2 (by omega), tc_bs, td_w_mod]
  rfl
theorem td_spc {τ s : tc_S} (hi : tc_inv τ) (h2 : s.2 2 = τ.2 2) {k : Nat} (hk : k < 8) (w : Nat) (hw : w < 4) : m_XP_vramWord s (nI (td_r τ 5 % 16 * 32 + 4 * k + w)) = some (nI (td_sw τ k w), s) := by
  rw [td_wc hi h2 (by omega)]; rfl
theorem td_sw_lt {τ : tc_S} (hi : tc_inv τ) (k w : Nat) : td_sw τ k w < 65536 := (td_w_num hi _).2
theorem td_m63 {W : Nat} (hW : W < 65536) : nI W &&& 63 = nI (W % 64) := tc_msk (by omega) 6 (by decide)
theorem td_m7 {W : Nat} (hW : W < 65536) : nI W &&& 7 = nI (W % 8) := tc_msk (by omega) 3 (by decide)
theorem td_onl {τ s : tc_S} (hi : tc_inv τ) (h2 : s.2 2 = τ.2 2) {y k : Nat} (hy : y < 8) (hk : k < 8) : m_XD_isOnLine s (nI (td_r τ 5 % 16 * 32 + 4 * k)) (nI y) = some (if td_on τ y k = true then 1 else 0, s) := by
  have hw := td_spc hi h2 hk 0 (by decide)
  rw [Nat.add_zero] at hw
  unfold m_XD_isOnLine m_XD_isOnLine_30 m_XD_isOnLine_31
  rw [hw, tc_bs]
  simp only [td_m63 (td_sw_lt hi k 0), show nI y + 16 = nI (y + 16) from nI_add y 16]
  have l1 := td_lt0 (a := y + 16) (c := td_sw τ k 0 % 64) (by omega) (by omega)
  have l2 := td_ge (a := y + 16) (c := td_sw τ k 0 % 64) (show (4 : Int32) = nI 4 from rfl) (by omega) (by omega) (by decide)
  unfold td_on
  by_cases c1 : y + 16 < td_sw τ k 0 % 64
  · rw [if_pos (l1.mpr c1), if_neg (by simp; omega)]; rfl
  · rw [if_neg (fun h => c1 (l1.mp h))]
    by_cases c2 : td_sw τ k 0 % 64 + 4 ≤ y + 16
    · rw [if_pos (l2.mpr c2), if_neg (by simp; omega)]; rfl
    · rw [if_neg (fun h => c2 (l2.mp h)), if_pos (by simp; omega)]; rfl
/-- which sprites are taken: n still to look at, cnt taken so far (q), k comes next -/
def td_tk (τ : tc_S) (y : Nat) : Nat → Nat → Nat → (Nat → Nat) → Nat × (Nat → Nat) × Bool
  | 0, cnt, _, q => (cnt, q, false)
  | n + 1, cnt, k, q =>
    if td_on τ y k = true then
      (if cnt = 3 then (cnt, q, true) else if 0 < cnt ∧ td_sw τ k 3 % 64 = 0 then (cnt, q, false) else
        (if td_sw τ k 1 % 8 = 0 then (cnt + 1, va_up q cnt k, false) else td_tk τ y n (cnt + 1) (td_sw τ k 1 % 8) (va_up q cnt k)))
    else (if td_sw τ k 1 % 8 = 0 then (cnt, q, false) else td_tk τ y n cnt (td_sw τ k 1 % 8) q)
theorem td_tk_ok (τ : tc_S) (y : Nat) : ∀ (n cnt k : Nat) (q : Nat → Nat), cnt ≤ 3 → k < 8 → (∀ j, j < cnt → q j < 8 ∧ td_on τ y (q j) = true) → (td_tk τ y n cnt k q).1 ≤ 3 ∧ ∀ j, j < (td_tk τ y n cnt k q).1 → (td_tk τ y n cnt k q).2.1 j < 8 ∧ td_on τ y ((td_tk τ y n cnt k q).2.1 j) = true := by
  intro n
  induction n with
  | zero => intro cnt k q h1 h2 h3; exact ⟨h1, h3⟩
  | succ n ih =>
    intro cnt k q h1 h2 h3
    have hup : td_on τ y k = true → ∀ j, j < cnt + 1 → va_up q cnt k j < 8 ∧ td_on τ y (va_up q cnt k j) = true := by
      intro ho j hj
      unfold va_up
      by_cases e : j = cnt
      · rw [if_pos e]; exact ⟨h2, ho⟩
      · rw [if_neg e]; exact h3 j (by omega)
    unfold td_tk
    by_cases c1 : td_on τ y k = true
    · rw [if_pos c1]
      by_cases c2 : cnt = 3
      · rw [if_pos c2]; exact ⟨h1, h3⟩
      · rw [if_neg c2]
        by_cases c3 : 0 < cnt ∧ td_sw τ k 3 % 64 = 0
        · rw [if_pos c3]; exact ⟨h1, h3⟩
        · rw [if_neg c3]
          by_cases c4 : td_sw τ k 1 % 8 = 0
          · rw [if_pos c4]; exact ⟨by show cnt + 1 ≤ 3; omega, hup c1⟩
          · rw [if_neg c4]; exact ih (cnt + 1) _ _ (by omega) (Nat.mod_lt _ (by decide)) (hup c1)
    · rw [if_neg c1]
      by_cases c4 : td_sw τ k 1 % 8 = 0
      · rw [if_pos c4]; exact ⟨h1, h3⟩
      · rw [if_neg c4]; exact ih cnt _ _ h1 (Nat.mod_lt _ (by decide)) h3
/-- what taking does to the class's state -/
def td_tc (τ s s' : tc_S) (r : Nat × (Nat → Nat) × Bool) : Prop := (∀ j, j ≠ 12 → s'.2 j = s.2 j) ∧ s'.1 = (if r.2.2 = true then upd s.1 26 1 else s.1) ∧ ∀ j, j < r.1 → s'.2 12 j = nI (td_r τ 5 % 16 * 32 + 4 * r.2.1 j)
theorem td_take_c {τ : tc_S} (hi : tc_inv τ) {y : Nat} (hy : y < 8) : ∀ (n f : Nat) (s : tc_S) (cnt k i : Nat) (q : Nat → Nat), i + n = 8 → n < f → s.2 2 = τ.2 2 → cnt ≤ 3 → k < 8 → (∀ j, j < cnt → s.2 12 j = nI (td_r τ 5 % 16 * 32 + 4 * q j)) → ∃ s', m_XD_takeSprites_21 f s (nI y) (nI (td_r τ 5 % 16 * 32)) (nI cnt) (nI k) (nI i) = some (nI (td_tk τ y n cnt k q).1, s') ∧ td_tc τ s s' (td_tk τ y n cnt k q) := by
  intro n
  induction n with
  | zero =>
    intro f s cnt k i q hin hf h2 hc hk hq
    obtain ⟨f, rfl⟩ : ∃ g, f = g + 1 := ⟨f - 1, by omega⟩
    have hin : i = 8 := hin
    subst hin
    unfold m_XD_takeSprites_21
    rw [if_pos (show (8 : Int32) ≤ nI 8 by decide)]
    exact ⟨s, rfl, fun _ _ => rfl, rfl, hq⟩
  | succ n ih =>
    intro f s cnt k i q hin hf h2 hc hk hq
    obtain ⟨f, rfl⟩ : ∃ g, f = g + 1 := ⟨f - 1, by omega⟩
    have hci : ¬ (8 : Int32) ≤ nI i := nI_ge (b := 8) (by omega) (by decide)
    have ew : nI (td_r τ 5 % 16 * 32) + (4 * nI k) = nI (td_r τ 5 % 16 * 32 + 4 * k) := by
      rw [show 4 * nI k = nI (4 * k) from pk_mul 4 k, nI_add]
    have e1 : nI (td_r τ 5 % 16 * 32 + 4 * k) + 1 = nI (td_r τ 5 % 16 * 32 + 4 * k + 1) := nI_1 _
    have e3 : nI (td_r τ 5 % 16 * 32 + 4 * k) + 3 = nI (td_r τ 5 % 16 * 32 + 4 * k + 3) := nI_add _ 3
    have z1 : (nI (td_sw τ k 1 % 8) = 0) ↔ td_sw τ k 1 % 8 = 0 := tc_eqN (a := 0) rfl (by decide) (by omega)
    -- to the next sprite
    have nxt : ∀ (t : tc_S) (c : Nat) (q' : Nat → Nat), t.2 2 = τ.2 2 → c ≤ 3 → (∀ j, j < c → t.2 12 j = nI (td_r τ 5 % 16 * 32 + 4 * q' j)) → ∃ s', m_XD_takeSprites_92 (m_XD_takeSprites_21 f) t (nI y) (nI (td_r τ 5 % 16 * 32)) (nI c) (nI i) (nI (td_r τ 5 % 16 * 32 + 4 * k)) = some (nI (if td_sw τ k 1 % 8 = 0 then (c, q', false) else td_tk τ y n c (td_sw τ k 1 % 8) q').1, s') ∧ td_tc τ t s' (if td_sw τ k 1 % 8 = 0 then (c, q', false) else td_tk τ y n c (td_sw τ k 1 % 8) q') := by
      intro t c q' ht hc' hq'
      unfold m_XD_takeSprites_92
      rw [e1, td_spc hi ht hk 1 (by decide), tc_bs]
      simp only [td_m7 (td_sw_lt hi k 1)]
      by_cases c0 : td_sw τ k 1 % 8 = 0
      · rw [if_pos (z1.mpr c0), if_pos c0]
        exact ⟨t, rfl, fun _ _ => rfl, rfl, hq'⟩
      · rw [if_neg (fun h => c0 (z1.mp h)), if_neg c0, nI_1]
        exact ih f t c _ (i + 1) q' (by omega) (by omega) ht hc' (Nat.mod_lt _ (by decide)) hq'
    -- one more is taken
    have tak : td_on τ y k = true → cnt ≠ 3 → ¬ (0 < cnt ∧ td_sw τ k 3 % 64 = 0) → ∃ s', m_XD_takeSprites_81 (m_XD_takeSprites_21 f) s (nI y) (nI (td_r τ 5 % 16 * 32)) (nI cnt) (nI i) (nI (td_r τ 5 % 16 * 32 + 4 * k)) = some (nI (td_tk τ y (n + 1) cnt k q).1, s') ∧ td_tc τ s s' (td_tk τ y (n + 1) cnt k q) := by
      intro ho hc3 hm
      unfold m_XD_takeSprites_81
      rw [tc_gd_nI (by omega) (by decide), nI_1]
      obtain ⟨s', k1, k2, k3, k4⟩ := nxt (tc_sa s 12 (nI cnt) (nI (td_r τ 5 % 16 * 32 + 4 * k))) (cnt + 1) (va_up q cnt k) h2 (by omega) (by
        intro j hj
        rw [tc_sa2, if_pos rfl, tc_clamp (by omega)]
        unfold upd va_up
        by_cases e : j = cnt
        · rw [if_pos e, if_pos e]
        · rw [if_neg e, if_neg e]; exact hq j (by omega))
      have er : td_tk τ y (n + 1) cnt k q = (if td_sw τ k 1 % 8 = 0 then (cnt + 1, va_up q cnt k, false) else td_tk τ y n (cnt + 1) (td_sw τ k 1 % 8) (va_up q cnt k)) := by
        show (if td_on τ y k = true then _ else _) = _
        rw [if_pos ho, if_neg hc3, if_neg hm]
      rw [er]
      exact ⟨s', k1, fun j hj => (k2 j hj).trans (tc_sa_ne _ _ _ hj), k3, k4⟩
    have q3 : (nI cnt = 3) ↔ cnt = 3 := tc_eqN (a := 3) rfl (by decide) (by omega)
    have q0 : (nI cnt ≤ 0) ↔ cnt = 0 := by
      have := nI_leI (a := cnt) (b := 0) (by omega) (by decide)
      rw [show nI 0 = (0 : Int32) from rfl] at this
      rw [this]; omega
    have z3 : (nI (td_sw τ k 3 % 64) = 0) ↔ td_sw τ k 3 % 64 = 0 := tc_eqN (a := 0) rfl (by decide) (by omega)
    unfold m_XD_takeSprites_21
    rw [if_neg hci, ew, td_onl hi h2 hy hk, tc_bs]
    by_cases ho : td_on τ y k = true
    · simp only [ho, if_true]
      rw [if_neg (by decide)]
      by_cases c3 : cnt = 3
      · rw [if_pos (q3.mpr c3)]
        have er : td_tk τ y (n + 1) cnt k q = (cnt, q, true) := by
          show (if td_on τ y k = true then _ else _) = _
          rw [if_pos ho, if_pos c3]
        rw [er]
        exact ⟨tc_sf s 26 1, rfl, fun _ _ => rfl, rfl, hq⟩
      · rw [if_neg (fun h => c3 (q3.mp h))]
        by_cases c0 : cnt = 0
        · rw [if_pos (q0.mpr c0)]
          exact tak ho c3 (by omega)
        · rw [if_neg (fun h => c0 (q0.mp h)), e3, td_spc hi h2 hk 3 (by decide), tc_bs]
          simp only [td_m63 (td_sw_lt hi k 3)]
          by_cases cm : td_sw τ k 3 % 64 = 0
          · rw [if_pos (z3.mpr cm)]
            have er : td_tk τ y (n + 1) cnt k q = (cnt, q, false) := by
              show (if td_on τ y k = true then _ else _) = _
              rw [if_pos ho, if_neg c3, if_pos ⟨by omega, cm⟩]
            rw [er]
            exact ⟨s, rfl, fun _ _ => rfl, rfl, hq⟩
          · rw [if_neg (fun h => cm (z3.mp h))]
            exact tak ho c3 (fun h => cm h.2)
    · simp only [ho, if_false]
      rw [if_pos (by decide)]
      have er : td_tk τ y (n + 1) cnt k q = (if td_sw τ k 1 % 8 = 0 then (cnt, q, false) else td_tk τ y n cnt (td_sw τ k 1 % 8) q) := by
        show (if td_on τ y k = true then _ else _) = _
        rw [if_neg ho]
      rw [er]
      exact nxt s cnt q h2 hc hq
/-- what taking does to the reference's state -/
def td_tr (t t' : tc_S) (r : Nat × (Nat → Nat) × Bool) : Prop := (∀ j, j ≠ 12 → t'.2 j = t.2 j) ∧ (∀ k, k ≠ 36 → tc_gf t' k = (if r.2.2 = true then upd t.1 26 1 else t.1) k) ∧ tc_gf t' 36 = nI r.1 ∧ ∀ j, j < r.1 → t'.2 12 j = nI (r.2.1 j)
theorem td_take_r {τ : tc_S} (hi : tc_inv τ) {y : Nat} (hy : y < 8) : ∀ (n f : Nat) (t : tc_S) (cnt k i : Nat) (q : Nat → Nat), i + n = 8 → n + 1 < f → t.2 2 = τ.2 2 → t.2 5 = τ.2 5 → tc_gf t 27 = nI y → tc_gf t 36 = nI cnt → cnt ≤ 3 → k < 8 → (∀ j, j < cnt → t.2 12 j = nI (q j)) → ∃ t', m_XR_takeSprites_14 f t (nI cnt) (nI k) 1 (nI i) = some t' ∧ td_tr t t' (td_tk τ y n cnt k q) := by
  intro n
  induction n with
  | zero =>
    intro f t cnt k i q hin hf h2 h5 h27 h36 hc hk hq
    obtain ⟨f, rfl⟩ : ∃ g, f = g + 1 := ⟨f - 1, by omega⟩
    have hin : i = 8 := hin
    subst hin
    unfold m_XR_takeSprites_14
    rw [if_pos (show (8 : Int32) ≤ nI 8 by decide)]
    exact ⟨t, rfl, fun _ _ => rfl, fun _ _ => rfl, h36, hq⟩
  | succ n ih =>
    intro f t cnt k i q hin hf h2 h5 h27 h36 hc hk hq
    obtain ⟨f, rfl⟩ : ∃ g, f = g + 1 := ⟨f - 1, by omega⟩
    have hci : ¬ (8 : Int32) ≤ nI i := nI_ge (b := 8) (by omega) (by decide)
    have z1 : (nI (td_sw τ k 1 % 8) = 0) ↔ td_sw τ k 1 % 8 = 0 := tc_eqN (a := 0) rfl (by decide) (by omega)
    -- no more: the loop ends at its head
    have stop : ∀ (t' : tc_S) (c k' : Int32), m_XR_takeSprites_14 f t' c k' 0 (nI (i + 1)) = some t' := by
      intro t' c k'
      obtain ⟨f, rfl⟩ : ∃ g, f = g + 1 := ⟨f - 1, by omega⟩
      unfold m_XR_takeSprites_14 m_XR_takeSprites_144
      rw [if_pos (show (0 : Int32) = 0 from rfl)]
      split <;> rfl
    have end0 : ∀ (t' : tc_S) (c : Int32), t'.2 2 = τ.2 2 → t'.2 5 = τ.2 5 → m_XR_takeSprites_114 (m_XR_takeSprites_14 f) t' c (nI k) 0 (nI i) = some t' := by
      intro t' c ht2 ht5
      unfold m_XR_takeSprites_114 m_XR_takeSprites_136 m_XR_takeSprites_137
      rw [show (1 : Int32) = nI 1 from rfl, td_spw hi ht2 ht5 hk (by decide), tc_bs, if_pos rfl, nI_add]
      exact stop _ _ _
    have nxt : ∀ (t' : tc_S) (c : Nat) (q' : Nat → Nat), t'.2 2 = τ.2 2 → t'.2 5 = τ.2 5 → tc_gf t' 27 = nI y → tc_gf t' 36 = nI c → c ≤ 3 → (∀ j, j < c → t'.2 12 j = nI (q' j)) → ∃ t'', m_XR_takeSprites_114 (m_XR_takeSprites_14 f) t' (nI c) (nI k) 1 (nI i) = some t'' ∧ td_tr t' t'' (if td_sw τ k 1 % 8 = 0 then (c, q', false) else td_tk τ y n c (td_sw τ k 1 % 8) q') := by
      intro t' c q' ht2 ht5 ht27 ht36 hc' hq'
      unfold m_XR_takeSprites_114 m_XR_takeSprites_136 m_XR_takeSprites_137
      have hs1 := td_spw hi ht2 ht5 hk (w := 1) (by decide)
      rw [show nI 1 = (1 : Int32) from rfl] at hs1
      rw [hs1, tc_bs, if_neg (by decide)]
      simp only [td_m7 (td_sw_lt hi k 1)]
      by_cases c0 : td_sw τ k 1 % 8 = 0
      · rw [if_pos (z1.mpr c0), if_pos c0, nI_1]
        exact ⟨t', stop _ _ _, fun _ _ => rfl, fun _ _ => rfl, ht36, hq'⟩
      · rw [if_neg (fun h => c0 (z1.mp h)), if_neg c0, nI_1]
        exact ih f t' c _ (i + 1) q' (by omega) (by omega) ht2 ht5 ht27 ht36 hc' (Nat.mod_lt _ (by decide)) hq'
    have tak : td_on τ y k = true → cnt ≠ 3 → ¬ (0 < cnt ∧ td_sw τ k 3 % 64 = 0) → ∃ t', m_XR_takeSprites_91 (m_XR_takeSprites_14 f) t (nI cnt) (nI k) 1 (nI i) = some t' ∧ td_tr t t' (td_tk τ y (n + 1) cnt k q) := by
      intro ho hc3 hm
      unfold m_XR_takeSprites_91
      rw [h36, tc_gd_nI (by omega) (by decide), nI_1, tc_gf_sa, h36, nI_1]
      obtain ⟨t', k1, k2, k3, k4, k5⟩ := nxt (tc_sf (tc_sa t 12 (nI cnt) (nI k)) 36 (nI (cnt + 1))) (cnt + 1) (va_up q cnt k) h2 h5 h27 rfl (by omega) (by
        intro j hj
        show (tc_sa t 12 (nI cnt) (nI k)).2 12 j = _
        rw [tc_sa2, if_pos rfl, tc_clamp (by omega)]
        unfold upd va_up
        by_cases e : j = cnt
        · rw [if_pos e, if_pos e]
        · rw [if_neg e, if_neg e]; exact hq j (by omega))
      have er : td_tk τ y (n + 1) cnt k q = (if td_sw τ k 1 % 8 = 0 then (cnt + 1, va_up q cnt k, false) else td_tk τ y n (cnt + 1) (td_sw τ k 1 % 8) (va_up q cnt k)) := by
        show (if td_on τ y k = true then _ else _) = _
        rw [if_pos ho, if_neg hc3, if_neg hm]
      rw [er]
      refine ⟨t', k1, fun j hj => (k2 j hj).trans (tc_sa_ne _ _ _ hj), fun k' hk' => ?_, k4, k5⟩
      rw [k3 k' hk']
      generalize (if td_sw τ k 1 % 8 = 0 then (cnt + 1, va_up q cnt k, false) else td_tk τ y n (cnt + 1) (td_sw τ k 1 % 8) (va_up q cnt k)).2.2 = bb
      cases bb
      · show (tc_sf (tc_sa t 12 (nI cnt) (nI k)) 36 (nI (cnt + 1))).1 k' = t.1 k'
        show (if k' = 36 then _ else _) = _
        rw [if_neg hk']; rfl
      · show upd (tc_sf (tc_sa t 12 (nI cnt) (nI k)) 36 (nI (cnt + 1))).1 26 1 k' = upd t.1 26 1 k'
        unfold upd
        by_cases e : k' = 26
        · rw [if_pos e, if_pos e]
        · rw [if_neg e, if_neg e]
          show (if k' = 36 then _ else _) = _
          rw [if_neg hk']; rfl
    have q3 : (nI cnt = 3) ↔ cnt = 3 := tc_eqN (a := 3) rfl (by decide) (by omega)
    have q0 : (nI cnt ≤ 0) ↔ cnt = 0 := by
      have := nI_leI (a := cnt) (b := 0) (by omega) (by decide)
      rw [show nI 0 = (0 : Int32) from rfl] at this
      rw [this]; omega
    have z3 : (nI (td_sw τ k 3 % 64) = 0) ↔ td_sw τ k 3 % 64 = 0 := tc_eqN (a := 0) rfl (by decide) (by omega)
    have hs0 := td_spw hi h2 h5 hk (w := 0) (by decide)
    rw [show nI 0 = (0 : Int32) from rfl] at hs0
    have hs3 := td_spw hi h2 h5 hk (w := 3) (by decide)
    rw [show nI 3 = (3 : Int32) from rfl] at hs3
    have l1 := td_lt0 (a := y + 16) (c := td_sw τ k 0 % 64) (by omega) (by omega)
    have l2 := td_ge (a := y + 16) (c := td_sw τ k 0 % 64) (show (4 : Int32) = nI 4 from rfl) (by omega) (by omega) (by decide)
    unfold m_XR_takeSprites_14
    rw [if_neg hci, if_neg (by decide), hs0, tc_bs]
    simp only [h27, td_m63 (td_sw_lt hi k 0), show nI y + 16 = nI (y + 16) from nI_add y 16, l1, l2]
    have off : td_on τ y k ≠ true → ∃ t', m_XR_takeSprites_114 (m_XR_takeSprites_14 f) t (nI cnt) (nI k) 1 (nI i) = some t' ∧ td_tr t t' (td_tk τ y (n + 1) cnt k q) := by
      intro ho
      have er : td_tk τ y (n + 1) cnt k q = (if td_sw τ k 1 % 8 = 0 then (cnt, q, false) else td_tk τ y n cnt (td_sw τ k 1 % 8) q) := by
        show (if td_on τ y k = true then _ else _) = _
        rw [if_neg ho]
      rw [er]
      exact nxt t cnt q h2 h5 h27 h36 hc hq
    by_cases c1 : y + 16 < td_sw τ k 0 % 64
    · rw [if_pos c1]; exact off (by unfold td_on; simp; omega)
    rw [if_neg c1]
    by_cases c2 : td_sw τ k 0 % 64 + 4 ≤ y + 16
    · rw [if_pos c2]; exact off (by unfold td_on; simp; omega)
    rw [if_neg c2]
    have ho : td_on τ y k = true := by unfold td_on; simp; omega
    by_cases c3 : cnt = 3
    · rw [if_pos (q3.mpr c3), end0 (tc_sf t 26 1) _ h2 h5]
      have er : td_tk τ y (n + 1) cnt k q = (cnt, q, true) := by
        show (if td_on τ y k = true then _ else _) = _
        rw [if_pos ho, if_pos c3]
      rw [er]
      exact ⟨tc_sf t 26 1, rfl, fun _ _ => rfl, fun _ _ => rfl, h36, hq⟩
    · rw [if_neg (fun h => c3 (q3.mp h)), hs3, tc_bs]
      simp only [td_m63 (td_sw_lt hi k 3), z3, q0]
      by_cases cm : td_sw τ k 3 % 64 = 0
      · rw [if_pos cm]
        by_cases c0 : cnt = 0
        · rw [if_pos c0]; exact tak ho c3 (by omega)
        · rw [if_neg c0, end0 t _ h2 h5]
          have er : td_tk τ y (n + 1) cnt k q = (cnt, q, false) := by
            show (if td_on τ y k = true then _ else _) = _
            rw [if_pos ho, if_neg c3, if_pos ⟨by omega, cm⟩]
          rw [er]
          exact ⟨t, rfl, fun _ _ => rfl, fun _ _ => rfl, h36, hq⟩
      · rw [if_neg cm]; exact tak ho c3 (fun h => cm h.2)
