theorem tc_lo_f4 (σ : tc_S) (n z v c y u : Int32) : tc_lo (tc_f4 σ n z v c) y u = tc_f4 (tc_lo σ y u) n z v c := rfl
theorem tc_iteN {p q : Prop} [Decidable p] [Decidable q] (h : p ↔ q) {α : Type} (x y : α) : (if p then x else y) = (if q then x else y) := by
  by_cases c : p
  · rw [if_pos c, if_pos (h.mp c)]
  · rw [if_neg c, if_neg (fun k => c (h.mpr k))]
theorem tc_bit01 {p : Prop} [Decidable p] : (if p then (0 : Int32) else 1) = 0 ∨ (if p then (0 : Int32) else 1) = 1 := by
  by_cases c : p
  · exact Or.inl (if_pos c)
  · exact Or.inr (if_neg c)
theorem tc_k7 {b : Nat} {σ τ : tc_S} (h : tc_T b σ τ) (w y : Int32) : tc_M (tc_QK b)
    (tc_gd (y &&& 7) 8 (tc_gd (w &&& 7) 8 (if (((tc_ga σ 0 (y &&& 7)) &&& 65535) + ((tc_ga σ 0 (w &&& 7)) &&& 65535)) ≤ 65535 then (m_XM_add_69 σ (y &&& 7) ((tc_ga σ 0 (y &&& 7)).toInt16.toInt32 + (tc_ga σ 0 (w &&& 7)).toInt16.toInt32) 0 ((tc_ga σ 0 (y &&& 7)).toInt16.toInt32 + (tc_ga σ 0 (w &&& 7)).toInt16.toInt32)) else (m_XM_add_69 σ (y &&& 7) ((tc_ga σ 0 (y &&& 7)).toInt16.toInt32 + (tc_ga σ 0 (w &&& 7)).toInt16.toInt32) 1 ((tc_ga σ 0 (y &&& 7)).toInt16.toInt32 + (tc_ga σ 0 (w &&& 7)).toInt16.toInt32)))))
    (tc_gd (y &&& 7) 8 (tc_gd (w &&& 7) 8 ((m_XR_add τ ((tc_ga τ 0 (y &&& 7)) &&& 65535) ((tc_ga τ 0 (w &&& 7)) &&& 65535) 0).bind (fun q288 => ((m_XR_setLow q288.2 (y &&& 7) q288.1).bind (fun q291 => (some ((4 : Int32), q291)))))))) := by
  rw [tc_T_a h 0 (by decide), tc_T_a h 0 (by decide)]
  simp only [tc_gd7]
  generalize hp : tc_ga τ 0 (y &&& 7) = p
  generalize hq : tc_ga τ 0 (w &&& 7) = q
  obtain ⟨s1, s2⟩ := ti_sum (p := p) (q := q) rfl rfl
  have bX : p.toBitVec.toNat % 65536 < 65536 := Nat.mod_lt _ (by decide)
  have bY : q.toBitVec.toNat % 65536 < 65536 := Nat.mod_lt _ (by decide)
  rw [ti_and16 p, ti_and16 q, tc_radd τ bX bY]
  generalize hX : p.toBitVec.toNat % 65536 = X at *
  generalize hY : q.toBitVec.toNat % 65536 = Y at *
  simp only [tc_bs]
  rw [tc_lo_r, tc_lo_f4]
  simp only [tc_bs]
  have e1 : nI X + nI Y = nI (X + Y) := nI_add X Y
  have e4 : nI (X + Y) ≤ (65535 : Int32) ↔ X + Y ≤ 65535 := nI_leI (b := 65535) (by omega) (by decide)
  have key : ∀ l : Int32, l = 0 ∨ l = 1 → m_XM_add_69 σ (y &&& 7) (p.toInt16.toInt32 + q.toInt16.toInt32) l (p.toInt16.toInt32 + q.toInt16.toInt32) = some (4, tc_f4 (tc_lo σ (y &&& 7) (nI ((X + Y) % 65536))) (if nI ((X + Y) % 65536) < 32768 then 0 else 1) (if nI ((X + Y) % 65536) = 0 then 1 else 0) (if ¬ (X / 32768 % 2 = Y / 32768 % 2 ∧ X / 32768 % 2 ≠ (X + Y) % 65536 / 32768 % 2) then 0 else 1) l) := by
    intro l hl
    unfold m_XM_add_69
    rw [tc_reck _ _ _ hl]
    simp only [tc_bs]
    rw [tc_lo_c, tc_lo_f4, s1, tc_iteN s2]
    rfl
  rw [key 0 (Or.inl rfl), key 1 (Or.inr rfl), e1]
  have hlo := tc_lo_T h (y &&& 7) (nI ((X + Y) % 65536))
  by_cases c : X + Y ≤ 65535
  · rw [if_pos (e4.mpr c), if_pos c]
    exact tc_M_some (tc_QK_l 4 rfl (by decide) (by decide) (tc_f4_T hlo tc_ite2.1 tc_ite2.2 tc_ite2.1 (tc_B_0 (by decide))))
  · rw [if_neg (fun k => c (e4.mp k)), if_neg c]
    exact tc_M_some (tc_QK_l 4 rfl (by decide) (by decide) (tc_f4_T hlo tc_ite2.1 tc_ite2.2 tc_ite2.1 (tc_B_1 (by decide))))
theorem tc_k6 {b : Nat} {σ τ : tc_S} (h : tc_T b σ τ) (w y : Int32) : tc_M (tc_QK b)
    (tc_gd (y &&& 7) 8 (tc_gd (w &&& 7) 8 (if ((tc_ga σ 0 (w &&& 7)) &&& 65535) ≤ ((tc_ga σ 0 (y &&& 7)) &&& 65535) then (m_XM_compare_57 σ 0 ((tc_ga σ 0 (y &&& 7)).toInt16.toInt32 - (tc_ga σ 0 (w &&& 7)).toInt16.toInt32)) else (m_XM_compare_57 σ 1 ((tc_ga σ 0 (y &&& 7)).toInt16.toInt32 - (tc_ga σ 0 (w &&& 7)).toInt16.toInt32)))))
    (tc_gd (y &&& 7) 8 (tc_gd (w &&& 7) 8 ((m_XR_add τ ((tc_ga τ 0 (y &&& 7)) &&& 65535) ((tc_ga τ 0 (w &&& 7)) &&& 65535) 1).bind (fun q323 => (some ((4 : Int32), q323.2)))))) := by
  rw [tc_T_a h 0 (by decide), tc_T_a h 0 (by decide)]
  simp only [tc_gd7]
  generalize hp : tc_ga τ 0 (y &&& 7) = p
  generalize hq : tc_ga τ 0 (w &&& 7) = q
  obtain ⟨s1, s2⟩ := ti_diff (p := p) (q := q) rfl rfl
  have bX : p.toBitVec.toNat % 65536 < 65536 := Nat.mod_lt _ (by decide)
  have bY : q.toBitVec.toNat % 65536 < 65536 := Nat.mod_lt _ (by decide)
  rw [ti_and16 p, ti_and16 q, tc_rsub τ bX bY]
  generalize hX : p.toBitVec.toNat % 65536 = X at *
  generalize hY : q.toBitVec.toNat % 65536 = Y at *
  simp only [tc_bs]
  have e4 : nI Y ≤ nI X ↔ Y ≤ X := nI_leI (by omega) (by omega)
  have key : ∀ l : Int32, l = 0 ∨ l = 1 → m_XM_compare_57 σ l (p.toInt16.toInt32 - q.toInt16.toInt32) = some (4, tc_f4 σ (if nI ((X + 65536 - Y) % 65536) < 32768 then 0 else 1) (if nI ((X + 65536 - Y) % 65536) = 0 then 1 else 0) (if ¬ (X / 32768 % 2 ≠ Y / 32768 % 2 ∧ X / 32768 % 2 ≠ (X + 65536 - Y) % 65536 / 32768 % 2) then 0 else 1) l) := by
    intro l hl
    unfold m_XM_compare_57
    rw [tc_reck _ _ _ hl, s1, tc_iteN s2]
    rfl
  rw [key 0 (Or.inl rfl), key 1 (Or.inr rfl)]
  by_cases c : Y ≤ X
  · rw [if_pos (e4.mpr c), if_pos c]
    exact tc_M_some (tc_QK_l 4 rfl (by decide) (by decide) (tc_f4_T h tc_ite2.1 tc_ite2.2 tc_ite2.1 (tc_B_0 (by decide))))
  · rw [if_neg (fun k => c (e4.mp k)), if_neg c]
    exact tc_M_some (tc_QK_l 4 rfl (by decide) (by decide) (tc_f4_T h tc_ite2.1 tc_ite2.2 tc_ite2.1 (tc_B_1 (by decide))))
/-! branches -/
theorem tc_holds {b : Nat} {σ τ : tc_S} (h : tc_T b σ τ) (k : Int32) : tc_M (fun a c => a.1 = c.1 ∧ a.2 = σ ∧ c.2 = τ) (m_XM_conditionHolds σ k) (m_XR_holds τ k) := by
  have bit : ∀ j, j < 33 → j ≠ 17 → j ≠ 18 → tc_bd j = 2 → (tc_gf τ j = 0 ∨ tc_gf τ j = 1) := by
    intro j h1 h2 h3 h4
    obtain ⟨n, hn, en⟩ := tc_T_B h j (by omega) h2 h3
    rw [h4] at hn
    have : n = 0 ∨ n = 1 := by omega
    rcases this with rfl | rfl
    · exact Or.inl en
    · exact Or.inr en
  have g3 := tc_T_g h 3 (by decide)
  have g4 := tc_T_g h 4 (by decide)
  have g6 := tc_T_g h 6 (by decide)
  have gb : ∀ {v : Int32}, (v = 0 ∨ v = 1) → tc_M (fun (a c : Int32 × tc_S) => a.1 = c.1 ∧ a.2 = σ ∧ c.2 = τ) (tc_gb v (some (v, σ))) (tc_gb v (some (v, τ))) := by
    intro v hv
    unfold tc_gb
    rw [if_pos hv, if_pos hv]
    exact tc_M_some ⟨rfl, rfl, rfl⟩
  have z : tc_M (fun (a c : Int32 × tc_S) => a.1 = c.1 ∧ a.2 = σ ∧ c.2 = τ) (m_XM_conditionHolds_120 σ) (m_XR_holds_120 τ) := tc_M_some ⟨rfl, rfl, rfl⟩
  unfold m_XM_conditionHolds m_XR_holds
  rw [g3, g4, g6]
  refine tc_M_if Iff.rfl (fun _ _ => tc_M_some ⟨rfl, rfl, rfl⟩) (fun _ _ => ?_)
  refine tc_M_if Iff.rfl (fun _ _ => z) (fun _ _ => ?_)
  refine tc_M_if Iff.rfl (fun _ _ => z) (fun _ _ => ?_)
  refine tc_M_if Iff.rfl (fun _ _ => z) (fun _ _ => ?_)
  refine tc_M_if Iff.rfl (fun _ _ => tc_M_if Iff.rfl (fun _ _ => gb (Or.inr rfl)) (fun _ _ => gb (Or.inl rfl))) (fun _ _ => ?_)
  refine tc_M_if Iff.rfl (fun _ _ => gb (bit 6 (by decide) (by decide) (by decide) rfl)) (fun _ _ => ?_)
  refine tc_M_if Iff.rfl (fun _ _ => tc_M_if Iff.rfl (fun _ _ => gb (Or.inr rfl)) (fun _ _ => gb (Or.inl rfl))) (fun _ _ => ?_)
  refine tc_M_if Iff.rfl (fun _ _ => gb (bit 4 (by decide) (by decide) (by decide) rfl)) (fun _ _ => ?_)
  refine tc_M_if Iff.rfl (fun _ _ => z) (fun _ _ => ?_)
  refine tc_M_if Iff.rfl (fun _ _ => z) (fun _ _ => ?_)
  refine tc_M_if Iff.rfl (fun _ _ => tc_M_if Iff.rfl (fun _ _ => gb (Or.inr rfl)) (fun _ _ => gb (Or.inl rfl))) (fun _ _ => ?_)
  exact tc_M_if Iff.rfl (fun _ _ => gb (bit 3 (by decide) (by decide) (by decide) rfl)) (fun _ _ => z)
theorem tc_k8 {b : Nat} {σ τ : tc_S} (h : tc_T b σ τ) (w : Int32) : tc_M (tc_QD b σ τ) (m_XM_branch σ w) (m_XR_branch τ w) := by
  unfold m_XM_branch m_XR_branch m_XR_branch_55
  refine tc_M_if (ti_byte0 w) (fun _ _ => tc_M_some (Or.inr ⟨rfl, rfl, rfl, rfl⟩)) (fun _ _ => ?_)
  refine tc_M_bind (tc_holds h _) (fun a c k => ?_)
  obtain ⟨e1, e2, e3⟩ := k
  rw [e1, e2, e3]
  refine tc_M_if Iff.rfl (fun _ _ => tc_M_some (tc_QD_l 8 rfl (by decide) (by decide) h)) (fun _ _ => ?_)
  rw [ti_byte, tc_T_g h 1 (by decide)]
  by_cases c : (w &&& 255) ≤ 127
  · rw [if_pos c, if_pos c]
    exact tc_M_some (tc_QD_l 10 rfl (by decide) (by decide) (tc_T_sf h 1 (by decide) (by decide) (by decide) (by decide) (tc_B_16 _)))
  · rw [if_neg c, if_neg c]
    exact tc_M_some (tc_QD_l 10 rfl (by decide) (by decide) (tc_T_sf h 1 (by decide) (by decide) (by decide) (by decide) (tc_B_16 _)))
/-! S, STOP, RTE -/
theorem tc_k9 {b : Nat} {σ τ : tc_S} (h : tc_T b σ τ) (w : Int32) : tc_M (tc_QK b) (tc_gd (w &&& 7) 8 (some ((4 : Int32), (tc_sf σ 0 ((tc_ga σ 0 (w &&& 7)) &&& 65535))))) (tc_gd (w &&& 7) 8 (some ((4 : Int32), (tc_sf τ 0 ((tc_ga τ 0 (w &&& 7)) &&& 65535))))) := by
  rw [tc_gd7, tc_gd7, tc_T_a h 0 (by decide)]
  exact tc_M_some (tc_QK_l 4 rfl (by decide) (by decide) (tc_T_sf h 0 (by decide) (by decide) (by decide) (by decide) (tc_B_16 _)))
theorem tc_k11 {b : Nat} {σ τ : tc_S} (h : tc_T b σ τ) : tc_M (tc_QK b) ((m_XM_nextWord σ).bind (fun q60 => ((m_XM_setMaskAndFlags q60.2 q60.1).bind (fun q63 => (some ((4 : Int32), (tc_sf q63 7 1))))))) ((m_XR_fetch τ).bind (fun q73 => ((m_XR_setFlagWord q73.2 q73.1).bind (fun q76 => (some ((4 : Int32), (tc_sf q76 7 1))))))) := by
  refine tc_M_bind (tc_fetch h) (fun a c k => ?_)
  obtain ⟨e1, _, h1⟩ := k
  rw [tc_sF_c, tc_sF_r, e1]
  simp only [tc_bs]
  exact tc_M_some (tc_QK_l 4 rfl (by decide) (by decide) (tc_T_sf (tc_sF_T h1 _) 7 (by decide) (by decide) (by decide) (by decide) (tc_B_1 (by decide))))
theorem tc_sF_sf (σ : tc_S) {k : Nat} (v w : Int32) (h2 : k ≠ 2) (h3 : k ≠ 3) (h4 : k ≠ 4) (h5 : k ≠ 5) (h6 : k ≠ 6) : tc_sF (tc_sf σ k v) w = tc_sf (tc_sF σ w) k v := by
  unfold tc_sF
  rw [tc_sf_comm σ v _ h2, tc_sf_comm _ v _ h3, tc_sf_comm _ v _ h4, tc_sf_comm _ v _ h5, tc_sf_comm _ v _ h6]
theorem tc_quiet_sf (τ : tc_S) {k : Nat} (v a : Int32) (h1 : k ≠ 15) (h2 : k ≠ 16) : m_XR_quiet (tc_sf τ k v) a = (m_XR_quiet τ a).map (fun q => (q.1, tc_sf τ k v)) := by
  have so : tc_so (tc_sf τ k v) = tc_so τ := by
    unfold tc_so
    rw [tc_gf_sf, tc_gf_sf, if_neg (Ne.symm h1), if_neg (Ne.symm h2)]
  have mg : ∀ (i : Int32) (n : Nat) (x : Option (Int32 × tc_S)), (tc_gd i n x).map (fun q => (q.1, tc_sf τ k v)) = tc_gd i n (x.map (fun q => (q.1, tc_sf τ k v))) := by
    intro i n x
    unfold tc_gd
    split <;> rfl
  unfold m_XR_quiet m_XR_quiet_18 m_XR_quiet_94 m_XR_quiet_112
  simp only [tc_isOut, tc_bs, so, tc_ga_sf]
  repeat' split
  all_goals first | rfl | (simp only [mg]; rfl)
theorem tc_quiet_sF (τ : tc_S) (w a : Int32) : m_XR_quiet (tc_sF τ w) a = (m_XR_quiet τ a).map (fun q => (q.1, tc_sF τ w)) := by
  unfold tc_sF
  rw [tc_quiet_sf _ _ _ (by decide) (by decide), tc_quiet_sf _ _ _ (by decide) (by decide), tc_quiet_sf _ _ _ (by decide) (by decide), tc_quiet_sf _ _ _ (by decide) (by decide), tc_quiet_sf _ _ _ (by decide) (by decide)]
  simp only [Option.map_map]
  rfl
theorem tc_k12 {b : Nat} {σ τ : tc_S} (h : tc_T b σ τ) : tc_M (tc_QK b)
    ((m_XU_readQuietly σ (tc_gf σ 0)).bind (fun q82 => ((m_XM_setMaskAndFlags q82.2 q82.1).bind (fun q85 => ((m_XU_readQuietly q85 (((tc_gf q85 0) + 4) &&& 65535)).bind (fun q102 => (some ((20 : Int32), (tc_sf (tc_sf q102.2 1 q102.1) 0 (((tc_gf (tc_sf q102.2 1 q102.1) 0) + 6) &&& 65535))))))))))
    ((m_XR_quiet τ (tc_gf τ 0)).bind (fun q21 => ((m_XR_quiet q21.2 (((tc_gf q21.2 0) + 4) &&& 65535)).bind (fun q36 => ((m_XR_setFlagWord (tc_sf (tc_sf q36.2 1 q36.1) 0 (((tc_gf (tc_sf q36.2 1 q36.1) 0) + 6) &&& 65535)) q21.1).bind (fun q58 => (some ((20 : Int32), q58)))))))) := by
  obtain ⟨n, hn, en⟩ := tc_T_B h 0 (by decide) (by decide) (by decide)
  have hn : n < 65536 := hn
  obtain ⟨v, hv, e1, e2⟩ := tc_q h hn
  have g0 := tc_T_g h 0 (by decide)
  rw [g0, en, e1, e2]
  simp only [tc_bs]
  rw [tc_sF_c]
  simp only [tc_bs]
  have hF := tc_sF_T h v
  have gF : tc_gf (tc_sF σ v) 0 = tc_gf τ 0 := by rw [← g0]; rfl
  obtain ⟨m, hm, em⟩ := tc_B_16 (tc_gf τ 0 + 4)
  obtain ⟨u, hu, e3, e4⟩ := tc_q hF hm
  obtain ⟨u', hu', e5, e6⟩ := tc_q h hm
  have euu : u = u' := by
    rw [tc_quiet_sF, e6] at e4
    exact (congrArg Prod.fst (Option.some.inj e4)).symm
  rw [gF, em, e3, e6]
  simp only [tc_bs]
  rw [tc_sF_r]
  simp only [tc_bs]
  subst euu
  have a1 : tc_gf (tc_sf (tc_sF σ v) 1 u) 0 = tc_gf τ 0 := by rw [← gF]; rfl
  have a2 : tc_gf (tc_sf τ 1 u) 0 = tc_gf τ 0 := rfl
  rw [a1, a2, ← tc_sF_sf _ _ _ (by decide) (by decide) (by decide) (by decide) (by decide), ← tc_sF_sf _ _ _ (by decide) (by decide) (by decide) (by decide) (by decide)]
  have h5 := tc_T_sf h 1 (by decide) (by decide) (by decide) (by decide) hu
  have h6 := tc_T_sf h5 0 (v := (tc_gf τ 0 + 6) &&& 65535) (by decide) (by decide) (by decide) (by decide) (tc_B_16 _)
  exact tc_M_some (tc_QK_l 20 rfl (by decide) (by decide) (tc_sF_T h6 v))
