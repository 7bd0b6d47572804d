theorem tc_sf_comm (σ : tc_S) {k j : Nat} (v u : Int32) (h : k ≠ j) : tc_sf (tc_sf σ k v) j u = tc_sf (tc_sf σ j u) k v := by
  unfold tc_sf
  refine Prod.ext ?_ rfl
  funext x
  simp only [upd]
  by_cases h1 : x = j
  · subst h1; simp [Ne.symm h]
  · simp [h1]
theorem tb_powN (x k : Nat) : x &&& 2 ^ k = x / 2 ^ k % 2 * 2 ^ k := by
  have hc : x / 2 ^ k % 2 = 0 ∨ x / 2 ^ k % 2 = 1 := by omega
  apply Nat.eq_of_testBit_eq
  intro i
  rw [Nat.testBit_and, Nat.testBit_two_pow]
  rcases hc with hc | hc
  · rw [hc, Nat.zero_mul, Nat.zero_testBit]
    by_cases e : k = i
    · subst e; simp [Nat.testBit_eq_decide_div_mod_eq, hc]
    · simp [e]
  · rw [hc, Nat.one_mul, Nat.testBit_two_pow]
    by_cases e : k = i
    · subst e; simp [Nat.testBit_eq_decide_div_mod_eq, hc]
    · simp [e]
theorem tb_pow (x k : Nat) : nI x &&& nI (2 ^ k) = nI (x / 2 ^ k % 2 * 2 ^ k) := by
  rw [tb_and, tb_powN]
theorem tc_sa_ne (σ : tc_S) {j j' : Nat} (i v : Int32) (h : j' ≠ j) : (tc_sa σ j i v).2 j' = σ.2 j' := if_neg h
theorem tb_bit0 {x : Nat} (k : Nat) (hk : 2 ^ k < 2 ^ 31) {m : Int32} (hm : m = nI (2 ^ k)) : (nI x &&& m = 0) ↔ x / 2 ^ k % 2 = 0 := by
  subst hm
  rw [tb_pow]
  have hb : x / 2 ^ k % 2 < 2 := Nat.mod_lt _ (by decide)
  generalize x / 2 ^ k % 2 = y at hb
  have : y = 0 ∨ y = 1 := by omega
  rcases this with rfl | rfl
  · simp; rfl
  · rw [Nat.one_mul]
    constructor
    · intro h
      exact absurd h (nI_ne0 (Nat.two_pow_pos k) hk)
    · intro h; cases h
/-! words in two bytes -/
theorem tc_rel_w7 {X : Nat → Prop} {σ τ : tc_S} (h : tc_rel X σ τ) {k : Nat} (hk : k < 256) {w a c : Int32} (hw : w = 256 * a + c) : tc_rel X (tc_sa σ 7 (nI k) w) (tc_sa (tc_sa τ 7 (nI (2 * k)) a) 7 (nI (2 * k + 1)) c) := by
  obtain ⟨h1, h2, h3, h4, h5⟩ := h
  refine ⟨h1, h2, fun j hj => ?_, fun i hi => ?_, fun i hi => ?_⟩
  · rw [tc_sa_ne _ _ _ (by omega), tc_sa_ne _ _ _ (by omega), tc_sa_ne _ _ _ (by omega)]; exact h3 j hj
  · simp only [tc_sa2, if_true]
    rw [tc_clamp (by omega), tc_clamp (by omega), tc_clamp (by omega)]
    unfold upd
    by_cases e : i = k
    · subst e
      rw [if_pos rfl, if_neg (by omega), if_pos rfl, if_pos rfl]; exact hw
    · rw [if_neg e, if_neg (by omega), if_neg (by omega), if_neg (by omega), if_neg (by omega)]; exact h4 i hi
  · rw [tc_sa_ne _ _ _ (by omega), tc_sa_ne _ _ _ (by omega), tc_sa_ne _ _ _ (by omega)]; exact h5 i hi
theorem tc_rel_w8 {X : Nat → Prop} {σ τ : tc_S} (h : tc_rel X σ τ) {k : Nat} (hk : k < 64) {w a c : Int32} (hw : w = 256 * a + c) : tc_rel X (tc_sa σ 8 (nI k) w) (tc_sa (tc_sa τ 8 (nI (2 * k)) a) 8 (nI (2 * k + 1)) c) := by
  obtain ⟨h1, h2, h3, h4, h5⟩ := h
  refine ⟨h1, h2, fun j hj => ?_, fun i hi => ?_, fun i hi => ?_⟩
  · rw [tc_sa_ne _ _ _ (by omega), tc_sa_ne _ _ _ (by omega), tc_sa_ne _ _ _ (by omega)]; exact h3 j hj
  · rw [tc_sa_ne _ _ _ (by omega), tc_sa_ne _ _ _ (by omega), tc_sa_ne _ _ _ (by omega)]; exact h4 i hi
  · simp only [tc_sa2, if_true]
    rw [tc_clamp (by omega), tc_clamp (by omega), tc_clamp (by omega)]
    unfold upd
    by_cases e : i = k
    · subst e
      rw [if_pos rfl, if_neg (by omega), if_pos rfl, if_pos rfl]; exact hw
    · rw [if_neg e, if_neg (by omega), if_neg (by omega), if_neg (by omega), if_neg (by omega)]; exact h5 i hi
/-! RESET, the pad's choice -/
theorem tc_T_14 {b : Nat} {σ τ : tc_S} (h : tc_T b σ τ) : tc_T b (tc_sf σ 14 0) (tc_sf τ 14 0) := by
  refine ⟨tc_rel_sf h.1 14 (by decide) 0, tc_inv_sf h.2.1 14 (fun _ _ _ => tc_B_0 (by decide)), ?_⟩
  obtain ⟨c1, c2, c3, c4, c5⟩ := h.2.2
  exact ⟨c1, c2, fun k => absurd rfl k, c4, c5⟩
theorem tc_T_17 {b : Nat} {σ τ : tc_S} (h : tc_T b σ τ) : tc_T b (tc_sf σ 17 0) (tc_sf τ 17 0) := by
  refine ⟨tc_rel_sf h.1 17 (by decide) 0, tc_inv_sf h.2.1 17 (fun _ k _ => absurd rfl k), ?_⟩
  obtain ⟨c1, c2, c3, c4, c5⟩ := h.2.2
  exact ⟨by show -64 ≤ (0 : Int32).toInt; decide, by show (0 : Int32).toInt ≤ 0; decide, fun _ => by show -32 ≤ (0 : Int32).toInt; decide, c4, c5⟩
theorem tc_T_33 {b : Nat} {σ τ : tc_S} (h : tc_T b σ τ) {v u : Int32} (hv : v = 64 * u) (hu : tc_B 2 u) : tc_T b (tc_sf σ 33 v) (tc_sf τ 33 u) := by
  obtain ⟨⟨h1, h2, h3, h4, h5⟩, hi, hc⟩ := h
  refine ⟨⟨fun j hj hx => ?_, hv, h3, h4, h5⟩, tc_inv_sf hi 33 (fun _ _ _ => hu), hc⟩
  rw [tc_gf_sf, tc_gf_sf, if_neg (by omega), if_neg (by omega)]; exact h1 j hj hx
theorem tc_reset2 {b : Nat} {σ τ : tc_S} {v : Int32} (h : tc_T b σ τ) (hv : v = 0 ∨ v = 1) : tc_M (tc_T b) (m_XS_setReset σ v) (m_XR_resetSecond τ v) := by
  have fin : ∀ {σ' τ' : tc_S}, tc_T b σ' τ' → tc_M (tc_T b) (m_XS_setReset_51 σ' v) (m_XR_resetSecond_51 τ' v) := by
    intro σ' τ' h'
    unfold m_XS_setReset_51 m_XR_resetSecond_51 tc_gb
    rw [if_pos hv, if_pos hv]
    exact tc_M_some (tc_T_sf h' 16 (by decide) (by decide) (by decide) (by decide) (by rcases hv with rfl | rfl; exact tc_B_0 (by decide); exact tc_B_1 (by decide)))
  have z : ∀ {σ' τ' : tc_S} (k : Nat), k < 33 → k ≠ 17 → k ≠ 18 → k ≠ 14 → 0 < tc_bd k → tc_T b σ' τ' → tc_T b (tc_sf σ' k 0) (tc_sf τ' k 0) := fun k h1 h2 h3 h4 h5 h' => tc_T_sf h' k h1 h2 h3 h4 (tc_B_0 h5)
  have hz := tc_T_17 (tc_T_14 (z 13 (by decide) (by decide) (by decide) (by decide) (by decide) (z 12 (by decide) (by decide) (by decide) (by decide) (by decide) (z 11 (by decide) (by decide) (by decide) (by decide) (by decide) (z 10 (by decide) (by decide) (by decide) (by decide) (by decide) (z 9 (by decide) (by decide) (by decide) (by decide) (by decide) (z 8 (by decide) (by decide) (by decide) (by decide) (by decide) h)))))))
  unfold m_XS_setReset m_XR_resetSecond
  rw [tc_T_g h 16 (by decide)]
  by_cases c1 : tc_gf τ 16 = 0
  · rw [if_pos c1, if_pos c1]
    by_cases c2 : v = 0
    · rw [if_pos c2]; exact fin h
    · rw [if_neg c2]; exact fin h
  · rw [if_neg c1, if_neg c1]
    by_cases c2 : v = 0
    · rw [if_pos c2, if_pos c2]; exact fin hz
    · rw [if_neg c2, if_neg c2]; exact fin h
/-! writing -/
theorem tc_write {b : Nat} {σ τ : tc_S} {w : Int32} (h : tc_T b σ τ) {n : Nat} (hn : n < 65536) (hw : tc_B 65536 w) : tc_M (tc_T b) (m_XU_write σ (nI n) w) (m_XR_write τ (nI n) w) := by
  obtain ⟨x, hx, ew⟩ := hw
  have hw : tc_B 65536 w := ⟨x, hx, ew⟩
  have eq : ∀ a : Nat, a < 2000 → ((nI n = nI a) ↔ n = a) := fun a ha => nI_eq (by omega) (by omega)
  have q1 : (nI n = 1024) ↔ n = 1024 := eq 1024 (by decide)
  have q2 : (nI n = 1028) ↔ n = 1028 := eq 1028 (by decide)
  have q3 : (nI n = 1040) ↔ n = 1040 := eq 1040 (by decide)
  have q4 : (nI n = 1044) ↔ n = 1044 := eq 1044 (by decide)
  have q5 : (nI n = 1048) ↔ n = 1048 := eq 1048 (by decide)
  have e1 : (nI n &&& 1 = 0) ↔ n % 2 = 0 := by
    rw [tc_msk (by omega) 1 (by decide)]; exact tc_eqN (a := 0) rfl (by decide) (by omega)
  have f3 : (nI n - nI n / 2 * 2 = 1) ↔ n % 2 = 1 := by
    rw [tc_mod (D := 2) (n := n) (d := 2) rfl (by omega) (by decide) (by decide)]; exact tc_eqN (a := 1) rfl (by decide) (by omega)
  have l1 : nI n < (512 : Int32) ↔ n < 512 := nI_ltI (b := 512) (by omega) (by decide)
  have l2 : (640 : Int32) ≤ nI n ↔ 640 ≤ n := tc_le (a := 640) rfl (by decide) (by omega)
  have l3 : nI n < (768 : Int32) ↔ n < 768 := nI_ltI (b := 768) (by omega) (by decide)
  have l4 : (896 : Int32) ≤ nI n ↔ 896 ≤ n := tc_le (a := 896) rfl (by decide) (by omega)
  have w8 : w >>> ((8 : Int32) &&& 31) = nI (x / 256) := by rw [ew]; exact tc_shr (by omega) _ 8 (by decide)
  have wl : w &&& 255 = nI (x % 256) := by rw [ew]; exact tc_msk (by omega) 8 (by decide)
  have b8 : (w &&& 256 = 0) ↔ x / 256 % 2 = 0 := by rw [ew]; exact tb_bit0 8 (by decide) rfl
  have b8r : nI (x / 256) &&& 1 = nI (x / 256 % 2) := tc_msk (by omega) 1 (by decide)
  have r1 : (nI (x / 256 % 2) = 1) ↔ x / 256 % 2 = 1 := tc_eqN (a := 1) rfl (by decide) (by omega)
  have r0 : (nI (x / 256 % 2) = 0) ↔ x / 256 % 2 = 0 := tc_eqN (a := 0) rfl (by decide) (by omega)
  unfold m_XU_write m_XR_write m_XR_write_54 m_XR_write_92 m_XU_writeMemory m_XU_writeMemory_37 m_XU_writeMemory_78 m_XU_write_137 m_XR_write_196
  simp only [q1, q2, q3, q4, q5, e1, f3, l1, l2, l3, l4, w8, wl, b8, b8r, r1, r0, tc_stands, tc_isOut, tc_bs]
  by_cases s1 : n = 1024
  · subst s1
    simp (decide := true) only [if_true, if_false]
    exact tc_M_bind (tc_wData h hw) (fun a c k => tc_M_some k)
  by_cases s2 : n = 1028
  · subst s2
    simp (decide := true) only [if_true, if_false]
    exact tc_M_bind (tc_control h hw) (fun a c k => tc_M_some k)
  by_cases s3 : n = 1040
  · subst s3
    simp (decide := true) only [if_true, if_false]
    unfold m_XU_write_91 m_XR_write_145 m_XU_write_137 m_XR_write_196
    by_cases c : x / 256 % 2 = 0
    · have c' : ¬ x / 256 % 2 = 1 := by omega
      rw [if_pos c, if_neg c', tc_gb_0, tc_gb_0]
      exact tc_M_some (tc_T_sf h 15 (by decide) (by decide) (by decide) (by decide) (tc_B_0 (by decide)))
    · have c' : x / 256 % 2 = 1 := by omega
      rw [if_neg c, if_pos c', tc_gb_1, tc_gb_1]
      exact tc_M_some (tc_T_sf h 15 (by decide) (by decide) (by decide) (by decide) (tc_B_1 (by decide)))
  by_cases s4 : n = 1044
  · subst s4
    simp (decide := true) only [if_true, if_false]
    unfold m_XU_write_114 m_XR_write_173 m_XU_write_137 m_XR_write_196
    by_cases c : x / 256 % 2 = 0
    · rw [if_pos c, if_pos c]
      exact tc_M_bind (tc_reset2 h (Or.inr rfl)) (fun a c k => tc_M_some k)
    · rw [if_neg c, if_neg c]
      exact tc_M_bind (tc_reset2 h (Or.inl rfl)) (fun a c k => tc_M_some k)
  by_cases s5 : n = 1048
  · subst s5
    simp (decide := true) only [if_true, if_false]
    have p1 : w &&& 64 = nI (x / 64 % 2 * 64) := by rw [ew]; exact tb_pow x 6
    have p2 : (w >>> ((6 : Int32) &&& 31)) &&& 1 = nI (x / 64 % 2) := by
      rw [ew, show nI x >>> ((6 : Int32) &&& 31) = nI (x / 64) from tc_shr (by omega) _ 6 (by decide)]
      exact tc_msk (by omega) 1 (by decide)
    rw [p1, p2]
    refine tc_M_some (tc_T_33 h ?_ ⟨x / 64 % 2, by omega, rfl⟩)
    rw [show (64 : Int32) * nI (x / 64 % 2) = nI (64 * (x / 64 % 2)) from pk_mul 64 _, Nat.mul_comm]
  simp only [s1, s2, s3, s4, s5, if_false]
  by_cases p : n % 2 = 0
  · have p' : ¬ n % 2 = 1 := by omega
    simp only [p, p', if_true, if_false]
    by_cases c1 : n < 512
    · have c3 : n < 768 := by omega
      simp only [c1, c3, if_true]
      exact tc_M_some h
    · by_cases c2 : 640 ≤ n
      · simp only [c1, c2, if_true, if_false]
        by_cases c3 : n < 768
        · simp only [c3, if_true]; exact tc_M_some h
        · by_cases c4 : 896 ≤ n
          · simp only [c3, c4, if_true, if_false]; exact tc_M_some h
          · simp only [c3, c4, if_false]
            rw [tc_so_eq h]
            by_cases c5 : tc_so τ = 0
            · simp only [c5, if_true]; exact tc_M_some h
            · simp only [c5, if_false]
              rw [show nI n - 768 = nI (n - 768) from pk_sub (b := 768) (by omega), tc_gd_nI (by omega) (by decide), tc_gd_nI (by omega) (by decide)]
              exact tc_M_some (tc_T_sa h 1 _ (by decide) ⟨x / 256, by show x / 256 < 256; omega, rfl⟩)
      · simp only [c1, c2, if_false]
        have hs : nI n - 512 = nI (n - 512) := pk_sub (b := 512) (by omega)
        have hs2 : nI n - 511 = nI (n - 511) := pk_sub (b := 511) (by omega)
        have hs3 : nI (n - 512) >>> ((1 : Int32) &&& 31) = nI ((n - 512) / 2) := tc_shr (by omega) _ 1 (by decide)
        rw [hs, hs2, hs3, tc_gd_nI (by omega) (by decide), tc_gd_nI (by omega) (by decide), tc_gd_nI (by omega) (by decide)]
        refine tc_M_some ⟨?_, tc_inv_sa (tc_inv_sa h.2.1 8 _ ⟨x / 256, by show x / 256 < 256; omega, rfl⟩) 8 _ ⟨x % 256, by show x % 256 < 256; omega, rfl⟩, h.2.2⟩
        have := tc_rel_w8 h.1 (k := (n - 512) / 2) (by omega) (w := w) (a := nI (x / 256)) (c := nI (x % 256)) (by
          rw [show (256 : Int32) * nI (x / 256) = nI (256 * (x / 256)) from pk_mul 256 _, nI_add, ew]
          congr 1; omega)
        rw [show 2 * ((n - 512) / 2) = n - 512 by omega, show n - 512 + 1 = n - 511 by omega] at this
        exact this
  · have p' : n % 2 = 1 := by omega
    simp only [p, p', if_true, if_false]
    exact tc_M_some h
