theorem tc_T_mono {b b' : Nat} {σ τ : tc_S} (h : tc_T b σ τ) (hb : b ≤ b') : tc_T b' σ τ := by
  obtain ⟨h1, h2, c1, c2, c3, c4, c5⟩ := h
  exact ⟨h1, h2, c1, c2, c3, c4, by omega⟩
/-- a number of cycles taken off -/
theorem ti_off {L : Int32} {m c : Nat} (h1 : -1000 ≤ L.toInt) (h2 : L.toInt ≤ 1000) (hm : m ≤ 100) (hc : c ≤ 100) : (L - (nI m + nI c)).toInt = L.toInt - m - c := by
  rw [nI_add, Int32.toInt_sub, nI_toInt (by omega)]
  simp only [Int.bmod_def]
  omega
theorem tc_giveL (C B : Nat) (hC : C < 100) (hB : B < 2000000000) : ∀ (m f f' : Nat) {σ τ : tc_S} (i : Nat), tc_rel tc_no σ τ → tc_inv τ → (tc_gf τ 17).toInt ≤ 4 * m → (tc_gf τ 17).toInt ≤ (C : Int) - 4 * i → -64 ≤ (tc_gf τ 17).toInt → (tc_gf τ 14 ≠ 0 → -32 ≤ (tc_gf τ 17).toInt) → 0 ≤ (tc_gf τ 18).toInt → (tc_gf τ 18).toInt + 44 * m ≤ B → m < f → m < f' → i < 1000 → tc_M (tc_T B) (m_XS_give_20 f σ (nI C) (nI i)) (m_XR_give_18 f' τ) := by
  intro m
  induction m with
  | zero =>
    intro f f' σ τ i hr hi l1 l2 l3 l4 d1 d2 hf hf' hi'
    obtain ⟨f, rfl⟩ : ∃ g, f = g + 1 := ⟨f - 1, by omega⟩
    obtain ⟨f', rfl⟩ : ∃ g, f' = g + 1 := ⟨f' - 1, by omega⟩
    have g17 := hr.1 17 (by decide) (fun k => k)
    have z : tc_gf τ 17 ≤ 0 := by rw [Int32.le_iff_toInt_le]; exact l1
    have T : tc_T B σ τ := ⟨hr, hi, l3, l1, l4, d1, by omega⟩
    unfold m_XS_give_20 m_XR_give_18 m_XS_give_64
    rw [g17, if_pos z, if_pos z]
    by_cases c : nI C ≤ nI i
    · rw [if_pos c]; exact tc_M_some T
    · rw [if_neg c]; exact tc_M_some T
  | succ m ih =>
    intro f f' σ τ i hr hi l1 l2 l3 l4 d1 d2 hf hf' hi'
    obtain ⟨f, rfl⟩ : ∃ g, f = g + 1 := ⟨f - 1, by omega⟩
    obtain ⟨f', rfl⟩ : ∃ g, f' = g + 1 := ⟨f' - 1, by omega⟩
    have g17 := hr.1 17 (by decide) (fun k => k)
    have g13 := hr.1 13 (by decide) (fun k => k)
    unfold m_XS_give_20 m_XR_give_18 m_XS_give_64
    rw [g17]
    by_cases z : tc_gf τ 17 ≤ 0
    · have T : tc_T B σ τ := ⟨hr, hi, l3, by rw [Int32.le_iff_toInt_le] at z; exact z, l4, d1, by omega⟩
      rw [if_pos z, if_pos z]
      by_cases c : nI C ≤ nI i
      · rw [if_pos c]; exact tc_M_some T
      · rw [if_neg c]; exact tc_M_some T
    · have zp : 0 < (tc_gf τ 17).toInt := by
        rw [Int32.le_iff_toInt_le, show (0 : Int32).toInt = 0 from rfl] at z
        omega
      have hci : ¬ nI C ≤ nI i := nI_ge (by omega) (by omega)
      rw [if_neg hci, if_neg z, if_neg z, g13, show tc_gf (tc_sf τ 35 0) 13 = tc_gf τ 13 from rfl]
      have h35 : tc_rel tc_no σ (tc_sf τ 35 0) := ⟨fun k hk hx => by rw [tc_gf_sf, if_neg (by omega)]; exact hr.1 k hk hx, hr.2⟩
      have i35 : tc_inv (tc_sf τ 35 0) := tc_inv_sf hi 35 (fun k _ _ => absurd k (by decide))
      obtain ⟨d, hdl, hd⟩ := nI_of (x := tc_gf τ 18) (by rw [Int32.lt_iff_toInt_lt, show (0 : Int32).toInt = 0 from rfl]; omega)
      -- behind an instruction
      have go : ∀ (c' q : Nat) {s t : tc_S}, c' ≤ 4 → 4 ≤ q → q ≤ 13 → tq_V (tc_gf τ 17) d c' s t → tc_M (tc_T B) (m_XS_give_47 (m_XS_give_20 f) s (nI C) (nI i) (nI q)) (m_XR_give_45 (m_XR_give_18 f') t (nI q)) := by
        intro c' q s t hc' hq hq' hv
        obtain ⟨v1, v2, v3, v4, v5, v6⟩ := hv
        unfold m_XS_give_47 m_XR_give_45
        rw [v3, v4, v5, ti_ss, Int32.add_comm (nI (3 * c')) (nI q), nI_1]
        have tl : (tc_gf τ 17 - (nI q + nI (3 * c'))).toInt = (tc_gf τ 17).toInt - q - (3 * c' : Nat) := ti_off (by omega) (by omega) (by omega) (by omega)
        have e17 : ∀ v : Int32, tc_gf (tc_sf t 17 v) 17 = v := fun v => by rw [tc_gf_sf, if_pos rfl]
        have dd : d + 44 * (m + 1) ≤ B := by
          rw [hd, nI_toInt hdl] at d2
          omega
        refine ih f f' (i + 1) ?_ ?_ ?_ ?_ ?_ ?_ ?_ ?_ (by omega) (by omega) (by omega)
        · refine ⟨fun k hk hx => ?_, v1.2⟩
          rw [tc_gf_sf, tc_gf_sf]
          by_cases e : k = 17
          · rw [if_pos e, if_pos e]
          · rw [if_neg e, if_neg e]; exact v1.1 k hk e
        · exact tc_inv_sf v2 17 (fun _ k _ => absurd rfl k)
        · rw [e17, tl]; omega
        · rw [e17, tl]; omega
        · rw [e17, tl]; omega
        · intro _; rw [e17, tl]; omega
        · rw [show tc_gf (tc_sf t 17 (tc_gf τ 17 - (nI q + nI (3 * c')))) 18 = tc_gf t 18 from rfl, v6, nI_toInt (by omega)]; omega
        · rw [show tc_gf (tc_sf t 17 (tc_gf τ 17 - (nI q + nI (3 * c')))) 18 = tc_gf t 18 from rfl, v6, nI_toInt (by omega)]; omega
      have hV : tq_V (tc_gf τ 17) d 0 σ (tc_sf τ 35 0) := by
        refine ⟨⟨fun k hk _ => h35.1 k hk (fun k => k), h35.2⟩, i35, rfl, rfl, ?_, hd⟩
        rw [g17, show nI (3 * 0) = 0 from rfl]
        exact (Int32.sub_zero _).symm
      by_cases hh : tc_gf τ 13 = 0
      · rw [if_pos hh, if_pos hh]
        refine tc_M_bind (tc_sec hV) (fun a c k => ?_)
        obtain ⟨e1, ⟨q, q1, q2, eq⟩, c', hc', hv⟩ := k
        rw [e1, eq]
        exact go c' q hc' q1 q2 hv
      · rw [if_neg hh, if_neg hh]
        exact go 0 4 (by decide) (by decide) (by decide) hV
theorem tc_give {b C : Nat} {σ τ : tc_S} (h : tc_T b σ τ) (hC : C < 45) (hb : b + 2000 < 2000000000) : tc_M (tc_T (b + 2000)) (m_XS_give σ (nI C)) (m_XR_give τ (nI C)) := by
  unfold m_XS_give m_XR_give
  rw [tc_stands, tc_isOut, tc_so_eq h]
  simp only [tc_bs]
  by_cases c : tc_so τ = 0
  · rw [if_pos c, if_pos c, tc_T_g h 17 (by decide)]
    obtain ⟨h1, h2, c1, c2, c3, c4, c5⟩ := h
    have tl : (tc_gf τ 17 + nI C).toInt = (tc_gf τ 17).toInt + C := by
      rw [Int32.toInt_add, nI_toInt (by omega)]
      simp only [Int.bmod_def]
      omega
    have e17 : tc_gf (tc_sf τ 17 (tc_gf τ 17 + nI C)) 17 = tc_gf τ 17 + nI C := by rw [tc_gf_sf, if_pos rfl]
    have e14 : tc_gf (tc_sf τ 17 (tc_gf τ 17 + nI C)) 14 = tc_gf τ 14 := rfl
    have e18 : tc_gf (tc_sf τ 17 (tc_gf τ 17 + nI C)) 18 = tc_gf τ 18 := rfl
    have := tc_giveL C (b + 2000) (by omega) hb 11 2000 2000 (σ := tc_sf σ 17 (tc_gf τ 17 + nI C)) (τ := tc_sf τ 17 (tc_gf τ 17 + nI C)) 0 (tc_rel_sf h1 17 (by decide) _) (tc_inv_sf h2 17 (fun _ k _ => absurd rfl k))
      (by rw [e17, tl]; omega) (by rw [e17, tl]; omega) (by rw [e17, tl]; omega) (by rw [e17, tl, e14]; intro k; have := c3 k; omega) (by rw [e18]; exact c4) (by rw [e18]; omega) (by omega) (by omega) (by omega)
    exact this
  · rw [if_neg c, if_neg c]
    exact tc_M_some (tc_T_mono h (by omega))
theorem tc_tell {b : Nat} {σ τ : tc_S} (h : tc_T b σ τ) : tc_M (tc_T b) (m_XS_tellLine8 σ) (m_XR_tellSecond τ) := by
  unfold m_XS_tellLine8 m_XR_tellSecond m_XS_tellLine8_14 m_XR_tellSecond_14
  rw [tc_stands, tc_isOut, tc_so_eq h]
  simp only [tc_bs]
  by_cases c : tc_so τ = 0
  · rw [if_pos c, if_pos c, tc_T_g h 14 (by decide)]
    by_cases c14 : tc_gf τ 14 = 0
    · rw [if_pos c14, if_pos c14]; exact tc_M_some h
    · rw [if_neg c14, if_neg c14, tc_T_g h 11 (by decide)]
      have h4 := tc_T_sf (tc_T_14 (tc_T_sf (tc_T_sf h 10 (v := tc_gf τ 11 &&& 255) (by decide) (by decide) (by decide) (by decide) (tc_B_8 _)) 11 (v := 56) (by decide) (by decide) (by decide) (by decide) ⟨56, by decide, rfl⟩)) 13 (v := 0) (by decide) (by decide) (by decide) (by decide) (tc_B_0 (by decide))
      rw [tc_T_g h4 17 (by decide)]
      have e17 : tc_gf (tc_sf (tc_sf (tc_sf (tc_sf τ 10 (tc_gf τ 11 &&& 255)) 11 56) 14 0) 13 0) 17 = tc_gf τ 17 := rfl
      rw [e17]
      obtain ⟨h1, h2, c1, c2, c3, c4, c5⟩ := h4
      have l3 := h.2.2.2.2.1 c14
      rw [e17] at c1 c2
      have tl : (tc_gf τ 17 - 13).toInt = (tc_gf τ 17).toInt - 13 := by
        rw [Int32.toInt_sub, show (13 : Int32).toInt = 13 from rfl]
        simp only [Int.bmod_def]
        omega
      refine tc_M_some ⟨tc_rel_sf h1 17 (by decide) _, tc_inv_sf h2 17 (fun _ k _ => absurd rfl k), ?_, ?_, ?_, c4, c5⟩
      · show -64 ≤ (tc_gf τ 17 - 13).toInt
        rw [tl]; omega
      · show (tc_gf τ 17 - 13).toInt ≤ 0
        rw [tl]; omega
      · intro k; exact absurd rfl k
  · rw [if_neg c, if_neg c]; exact tc_M_some h
