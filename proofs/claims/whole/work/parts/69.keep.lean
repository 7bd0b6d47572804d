theorem kp_XR_isOut_19 {q : Int32 × tc_S} {σ : tc_S} {k0 : Int32} (h : m_XR_isOut_19 σ k0 = some q) : tc_gf q.2 34 = tc_gf σ 34 := by
  unfold m_XR_isOut_19 at h
  obtain ⟨hz, h⟩ := tc_gb_some h
  cases h
  exact rfl
theorem kp_XR_isOut_14 {q : Int32 × tc_S} {σ : tc_S} (h : m_XR_isOut_14 σ = some q) : tc_gf q.2 34 = tc_gf σ 34 := by
  unfold m_XR_isOut_14 at h
  exact (kp_XR_isOut_19 h).trans rfl
theorem kp_XR_isOut_0 {q : Int32 × tc_S} {σ : tc_S} (h : m_XR_isOut σ = some q) : tc_gf q.2 34 = tc_gf σ 34 := by
  unfold m_XR_isOut at h
  by_cases hc : (tc_gf σ 15) = 0
  · have h := tc_ip hc h
    by_cases hc : (tc_gf σ 16) = 0
    · have h := tc_ip hc h
      exact (kp_XR_isOut_19 h).trans rfl
    · have h := tc_in hc h
      exact (kp_XR_isOut_14 h).trans rfl
  · have h := tc_in hc h
    exact (kp_XR_isOut_14 h).trans rfl
theorem kp_XR_isOut {q : Int32 × tc_S} {σ : tc_S} (h : m_XR_isOut σ = some q) : tc_gf q.2 34 = tc_gf σ 34 := kp_XR_isOut_0 h
theorem kp_XR_quiet_18 {q : Int32 × tc_S} {σ : tc_S} (h : m_XR_quiet_18 σ = some q) : tc_gf q.2 34 = tc_gf σ 34 := by
  unfold m_XR_quiet_18 at h
  cases h
  exact rfl
theorem kp_XR_quiet_112 {q : Int32 × tc_S} {σ : tc_S} {k0 : Int32} (h : m_XR_quiet_112 σ k0 = some q) : tc_gf q.2 34 = tc_gf σ 34 := by
  unfold m_XR_quiet_112 at h
  cases h
  exact rfl
theorem kp_XR_quiet_94 {q : Int32 × tc_S} {σ : tc_S} (h : m_XR_quiet_94 σ = some q) : tc_gf q.2 34 = tc_gf σ 34 := by
  unfold m_XR_quiet_94 at h
  exact (kp_XR_quiet_112 h).trans rfl
theorem kp_XR_quiet_0 {q : Int32 × tc_S} {σ : tc_S} {l1 : Int32} (h : m_XR_quiet σ l1 = some q) : tc_gf q.2 34 = tc_gf σ 34 := by
  unfold m_XR_quiet at h
  by_cases hc : l1 < 0
  · have h := tc_ip hc h
    exact (kp_XR_quiet_18 h).trans rfl
  · have h := tc_in hc h
    by_cases hc : 895 < l1
    · have h := tc_ip hc h
      exact (kp_XR_quiet_18 h).trans rfl
    · have h := tc_in hc h
      by_cases hc : (l1 - l1 / 2 * 2) = 1
      · have h := tc_ip hc h
        exact (kp_XR_quiet_18 h).trans rfl
      · have h := tc_in hc h
        by_cases hc : 512 ≤ l1
        · have h := tc_ip hc h
          by_cases hc : 640 ≤ l1
          · have h := tc_ip hc h
            by_cases hc : l1 < 768
            · have h := tc_ip hc h
              exact (kp_XR_quiet_94 h).trans rfl
            · have h := tc_in hc h
              obtain ⟨q88, e88, h⟩ := tc_bd_some h
              have k88 := (kp_XR_isOut e88).trans rfl
              by_cases hc : q88.1 = 0
              · have h := tc_ip hc h
                exact (kp_XR_quiet_94 h).trans k88
              · have h := tc_in hc h
                obtain ⟨hi, h⟩ := tc_gd_some h
                exact (kp_XR_quiet_112 h).trans k88
          · have h := tc_in hc h
            obtain ⟨hi, h⟩ := tc_gd_some h
            obtain ⟨hi, h⟩ := tc_gd_some h
            cases h
            exact rfl
        · have h := tc_in hc h
          obtain ⟨hi, h⟩ := tc_gd_some h
          obtain ⟨hi, h⟩ := tc_gd_some h
          cases h
          exact rfl
theorem kp_XR_quiet {q : Int32 × tc_S} {σ : tc_S} {l1 : Int32} (h : m_XR_quiet σ l1 = some q) : tc_gf q.2 34 = tc_gf σ 34 := kp_XR_quiet_0 h
theorem kp_XR_fetch_0 {q : Int32 × tc_S} {σ : tc_S} (h : m_XR_fetch σ = some q) : tc_gf q.2 34 = tc_gf σ 34 := by
  unfold m_XR_fetch at h
  obtain ⟨q5, e5, h⟩ := tc_bd_some h
  have k5 := (kp_XR_quiet e5).trans rfl
  cases h
  exact k5
theorem kp_XR_fetch {q : Int32 × tc_S} {σ : tc_S} (h : m_XR_fetch σ = some q) : tc_gf q.2 34 = tc_gf σ 34 := kp_XR_fetch_0 h
theorem kp_XR_add_114 {q : Int32 × tc_S} {σ : tc_S} {l5 k0 : Int32} (h : m_XR_add_114 σ l5 k0 = some q) : tc_gf q.2 34 = tc_gf σ 34 := by
  unfold m_XR_add_114 at h
  obtain ⟨hz, h⟩ := tc_gb_some h
  cases h
  exact rfl
theorem kp_XR_add_109 {q : Int32 × tc_S} {σ : tc_S} {l5 : Int32} (h : m_XR_add_109 σ l5 = some q) : tc_gf q.2 34 = tc_gf σ 34 := by
  unfold m_XR_add_109 at h
  exact (kp_XR_add_114 h).trans rfl
theorem kp_XR_add_93 {q : Int32 × tc_S} {σ : tc_S} {l4 l5 k0 : Int32} (h : m_XR_add_93 σ l4 l5 k0 = some q) : tc_gf q.2 34 = tc_gf σ 34 := by
  unfold m_XR_add_93 at h
  obtain ⟨hz, h⟩ := tc_gb_some h
  by_cases hc : l4 < 0
  · have h := tc_ip hc h
    exact (kp_XR_add_109 h).trans rfl
  · have h := tc_in hc h
    by_cases hc : l4 ≤ 65535
    · have h := tc_ip hc h
      exact (kp_XR_add_114 h).trans rfl
    · have h := tc_in hc h
      exact (kp_XR_add_109 h).trans rfl
theorem kp_XR_add_76 {q : Int32 × tc_S} {σ : tc_S} {l4 l5 l6 k0 : Int32} (h : m_XR_add_76 σ l4 l5 l6 k0 = some q) : tc_gf q.2 34 = tc_gf σ 34 := by
  unfold m_XR_add_76 at h
  obtain ⟨hz, h⟩ := tc_gb_some h
  by_cases hc : (l6 &&& 32768) = 0
  · have h := tc_ip hc h
    exact (kp_XR_add_93 h).trans rfl
  · have h := tc_in hc h
    exact (kp_XR_add_93 h).trans rfl
theorem kp_XR_add_62 {q : Int32 × tc_S} {σ : tc_S} {l4 l5 l6 k0 : Int32} (h : m_XR_add_62 σ l4 l5 l6 k0 = some q) : tc_gf q.2 34 = tc_gf σ 34 := by
  unfold m_XR_add_62 at h
  obtain ⟨hz, h⟩ := tc_gb_some h
  by_cases hc : l5 = 0
  · have h := tc_ip hc h
    exact (kp_XR_add_76 h).trans rfl
  · have h := tc_in hc h
    exact (kp_XR_add_76 h).trans rfl
theorem kp_XR_add_47 {q : Int32 × tc_S} {σ : tc_S} {l4 l5 k0 : Int32} (h : m_XR_add_47 σ l4 l5 k0 = some q) : tc_gf q.2 34 = tc_gf σ 34 := by
  unfold m_XR_add_47 at h
  by_cases hc : l5 < 32768
  · have h := tc_ip hc h
    exact (kp_XR_add_62 h).trans rfl
  · have h := tc_in hc h
    exact (kp_XR_add_62 h).trans rfl
theorem kp_XR_add_13 {q : Int32 × tc_S} {σ : tc_S} {l1 l2 l3 k0 : Int32} (h : m_XR_add_13 σ l1 l2 l3 k0 = some q) : tc_gf q.2 34 = tc_gf σ 34 := by
  unfold m_XR_add_13 at h
  by_cases hc : l3 = 0
  · have h := tc_ip hc h
    exact (kp_XR_add_47 h).trans rfl
  · have h := tc_in hc h
    exact (kp_XR_add_47 h).trans rfl
theorem kp_XR_add_0 {q : Int32 × tc_S} {σ : tc_S} {l1 l2 l3 : Int32} (h : m_XR_add σ l1 l2 l3 = some q) : tc_gf q.2 34 = tc_gf σ 34 := by
  unfold m_XR_add at h
  by_cases hc : l3 = 0
  · have h := tc_ip hc h
    exact (kp_XR_add_13 h).trans rfl
  · have h := tc_in hc h
    exact (kp_XR_add_13 h).trans rfl
theorem kp_XR_add {q : Int32 × tc_S} {σ : tc_S} {l1 l2 l3 : Int32} (h : m_XR_add σ l1 l2 l3 = some q) : tc_gf q.2 34 = tc_gf σ 34 := kp_XR_add_0 h
theorem kp_XR_setLow_0 {q : tc_S} {σ : tc_S} {l1 l2 : Int32} (h : m_XR_setLow σ l1 l2 = some q) : tc_gf q 34 = tc_gf σ 34 := by
  unfold m_XR_setLow at h
  obtain ⟨hi, h⟩ := tc_gd_some h
  obtain ⟨hi, h⟩ := tc_gd_some h
  cases h
  exact rfl
theorem kp_XR_setLow {q : tc_S} {σ : tc_S} {l1 l2 : Int32} (h : m_XR_setLow σ l1 l2 = some q) : tc_gf q 34 = tc_gf σ 34 := kp_XR_setLow_0 h
theorem kp_XR_resetSecond_51 {q : tc_S} {σ : tc_S} {l1 : Int32} (h : m_XR_resetSecond_51 σ l1 = some q) : tc_gf q 34 = tc_gf σ 34 := by
  unfold m_XR_resetSecond_51 at h
  obtain ⟨hz, h⟩ := tc_gb_some h
  cases h
  exact rfl
theorem kp_XR_resetSecond_0 {q : tc_S} {σ : tc_S} {l1 : Int32} (h : m_XR_resetSecond σ l1 = some q) : tc_gf q 34 = tc_gf σ 34 := by
  unfold m_XR_resetSecond at h
  by_cases hc : l1 = 0
  · have h := tc_ip hc h
    by_cases hc : (tc_gf σ 16) = 0
    · have h := tc_ip hc h
      exact (kp_XR_resetSecond_51 h).trans rfl
    · have h := tc_in hc h
      exact (kp_XR_resetSecond_51 h).trans rfl
  · have h := tc_in hc h
    exact (kp_XR_resetSecond_51 h).trans rfl
theorem kp_XR_resetSecond {q : tc_S} {σ : tc_S} {l1 : Int32} (h : m_XR_resetSecond σ l1 = some q) : tc_gf q 34 = tc_gf σ 34 := kp_XR_resetSecond_0 h
theorem kp_XR_length_35 {q : Int32 × tc_S} {σ : tc_S} {k0 : Int32} (h : m_XR_length_35 σ k0 = some q) : tc_gf q.2 34 = tc_gf σ 34 := by
  unfold m_XR_length_35 at h
  cases h
  exact rfl
theorem kp_XR_length_0 {q : Int32 × tc_S} {σ : tc_S} (h : m_XR_length σ = some q) : tc_gf q.2 34 = tc_gf σ 34 := by
  unfold m_XR_length at h
  obtain ⟨hi, h⟩ := tc_gd_some h
  obtain ⟨hi, h⟩ := tc_gd_some h
  by_cases hc : (((256 * (tc_ga σ 5 12)) + (tc_ga σ 5 11)) - ((256 * (tc_ga σ 5 12)) + (tc_ga σ 5 11)) / 512 * 512) = 0
  · have h := tc_ip hc h
    exact (kp_XR_length_35 h).trans rfl
  · have h := tc_in hc h
    exact (kp_XR_length_35 h).trans rfl
theorem kp_XR_length {q : Int32 × tc_S} {σ : tc_S} (h : m_XR_length σ = some q) : tc_gf q.2 34 = tc_gf σ 34 := kp_XR_length_0 h
theorem kp_XR_half_0 {q : Int32 × tc_S} {σ : tc_S} (h : m_XR_half σ = some q) : tc_gf q.2 34 = tc_gf σ 34 := by
  unfold m_XR_half at h
  obtain ⟨hi, h⟩ := tc_gd_some h
  obtain ⟨hi, h⟩ := tc_gd_some h
  cases h
  exact rfl
theorem kp_XR_half {q : Int32 × tc_S} {σ : tc_S} (h : m_XR_half σ = some q) : tc_gf q.2 34 = tc_gf σ 34 := kp_XR_half_0 h
theorem kp_XR_endMove_0 {q : tc_S} {σ : tc_S} (h : m_XR_endMove σ = some q) : tc_gf q 34 = tc_gf σ 34 := by
  unfold m_XR_endMove at h
  obtain ⟨hi, h⟩ := tc_gd_some h
  obtain ⟨hi, h⟩ := tc_gd_some h
  cases h
  exact rfl
theorem kp_XR_endMove {q : tc_S} {σ : tc_S} (h : m_XR_endMove σ = some q) : tc_gf q 34 = tc_gf σ 34 := kp_XR_endMove_0 h
theorem kp_XR_grow_0 {q : tc_S} {σ : tc_S} (h : m_XR_grow σ = some q) : tc_gf q 34 = tc_gf σ 34 := by
  unfold m_XR_grow at h
  obtain ⟨hi, h⟩ := tc_gd_some h
  cases h
  exact rfl
theorem kp_XR_grow {q : tc_S} {σ : tc_S} (h : m_XR_grow σ = some q) : tc_gf q 34 = tc_gf σ 34 := kp_XR_grow_0 h
theorem kp_XR_begin_109 {q : tc_S} {σ : tc_S} (h : m_XR_begin_109 σ = some q) : tc_gf q 34 = tc_gf σ 34 := by
  unfold m_XR_begin_109 at h
  cases h
  exact rfl
theorem kp_XR_begin_63 {q : tc_S} : ∀ (n : Nat) {σ : tc_S} {l2 l3 l4 : Int32} (h : m_XR_begin_63 n σ l2 l3 l4 = some q), tc_gf q 34 = tc_gf σ 34 := by
  intro n
  induction n with
  | zero =>
    intro σ l2 l3 l4 h
    exact absurd h (by simp [m_XR_begin_63])
  | succ n ih =>
    intro σ l2 l3 l4 h
    unfold m_XR_begin_63 at h
    by_cases hc : l2 ≤ l4
    · have h := tc_ip hc h
      obtain ⟨q106, e106, h⟩ := tc_bd_some h
      have k106 := (kp_XR_endMove e106).trans rfl
      exact (kp_XR_begin_109 h).trans k106
    · have h := tc_in hc h
      obtain ⟨hi, h⟩ := tc_gd_some h
      obtain ⟨hi, h⟩ := tc_gd_some h
      obtain ⟨q96, e96, h⟩ := tc_bd_some h
      have k96 := (kp_XR_grow e96).trans rfl
      exact (ih h).trans k96
theorem kp_XR_begin_0 {q : tc_S} {σ : tc_S} (h : m_XR_begin σ = some q) : tc_gf q 34 = tc_gf σ 34 := by
  unfold m_XR_begin at h
  obtain ⟨hi, h⟩ := tc_gd_some h
  by_cases hc : 2 ≤ ((tc_ga σ 5 15) >>> ((6 : Int32) &&& 31))
  · have h := tc_ip hc h
    by_cases hc : ((tc_ga σ 5 15) >>> ((6 : Int32) &&& 31)) = 2
    · have h := tc_ip hc h
      exact (kp_XR_begin_109 h).trans rfl
    · have h := tc_in hc h
      obtain ⟨q51, e51, h⟩ := tc_bd_some h
      have k51 := (kp_XR_length e51).trans rfl
      obtain ⟨q56, e56, h⟩ := tc_bd_some h
      have k56 := (kp_XR_half e56).trans k51
      exact (kp_XR_begin_63 _ h).trans k56
  · have h := tc_in hc h
    obtain ⟨q18, e18, h⟩ := tc_bd_some h
    have k18 := (kp_XR_length e18).trans rfl
    obtain ⟨q27, e27, h⟩ := tc_bd_some h
    have k27 := (kp_XR_half e27).trans k18
    exact (kp_XR_begin_109 h).trans k27
theorem kp_XR_begin {q : tc_S} {σ : tc_S} (h : m_XR_begin σ = some q) : tc_gf q 34 = tc_gf σ 34 := kp_XR_begin_0 h
theorem kp_XR_control_156 {q : tc_S} {σ : tc_S} (h : m_XR_control_156 σ = some q) : tc_gf q 34 = tc_gf σ 34 := by
  unfold m_XR_control_156 at h
  cases h
  exact rfl
theorem kp_XR_control_0 {q : tc_S} {σ : tc_S} {l1 : Int32} (h : m_XR_control σ l1 = some q) : tc_gf q 34 = tc_gf σ 34 := by
  unfold m_XR_control at h
  by_cases hc : (tc_gf σ 21) = 0
  · have h := tc_ip hc h
    by_cases hc : (l1 >>> ((14 : Int32) &&& 31)) = 2
    · have h := tc_ip hc h
      obtain ⟨hi, h⟩ := tc_gd_some h
      exact (kp_XR_control_156 h).trans rfl
    · have h := tc_in hc h
      exact (kp_XR_control_156 h).trans rfl
  · have h := tc_in hc h
    by_cases hc : ((tc_gf (tc_sf (tc_sf (tc_sf σ 21 0) 19 (((tc_gf (tc_sf σ 21 0) 19) &&& 16383) ||| ((l1 &&& 3) <<< ((14 : Int32) &&& 31)))) 20 (((tc_gf (tc_sf (tc_sf σ 21 0) 19 (((tc_gf (tc_sf σ 21 0) 19) &&& 16383) ||| ((l1 &&& 3) <<< ((14 : Int32) &&& 31)))) 20) &&& 3) ||| (((l1 >>> ((4 : Int32) &&& 31)) &&& 15) <<< ((2 : Int32) &&& 31)))) 20) &&& 32) = 0
    · have h := tc_ip hc h
      exact (kp_XR_control_156 h).trans rfl
    · have h := tc_in hc h
      obtain ⟨hi, h⟩ := tc_gd_some h
      by_cases hc : ((tc_ga (tc_sf (tc_sf (tc_sf σ 21 0) 19 (((tc_gf (tc_sf σ 21 0) 19) &&& 16383) ||| ((l1 &&& 3) <<< ((14 : Int32) &&& 31)))) 20 (((tc_gf (tc_sf (tc_sf σ 21 0) 19 (((tc_gf (tc_sf σ 21 0) 19) &&& 16383) ||| ((l1 &&& 3) <<< ((14 : Int32) &&& 31)))) 20) &&& 3) ||| (((l1 >>> ((4 : Int32) &&& 31)) &&& 15) <<< ((2 : Int32) &&& 31)))) 5 1) &&& 16) = 0
      · have h := tc_ip hc h
        exact (kp_XR_control_156 h).trans rfl
      · have h := tc_in hc h
        obtain ⟨q73, e73, h⟩ := tc_bd_some h
        have k73 := (kp_XR_begin e73).trans rfl
        exact (kp_XR_control_156 h).trans k73
theorem kp_XR_control {q : tc_S} {σ : tc_S} {l1 : Int32} (h : m_XR_control σ l1 = some q) : tc_gf q 34 = tc_gf σ 34 := kp_XR_control_0 h
theorem kp_XR_put_132 {q : tc_S} {σ : tc_S} (h : m_XR_put_132 σ = some q) : tc_gf q 34 = tc_gf σ 34 := by
  unfold m_XR_put_132 at h
  obtain ⟨q133, e133, h⟩ := tc_bd_some h
  have k133 := (kp_XR_grow e133).trans rfl
  cases h
  exact k133
theorem kp_XR_put_96 {q : tc_S} {σ : tc_S} {k0 k1 : Int32} (h : m_XR_put_96 σ k0 k1 = some q) : tc_gf q 34 = tc_gf σ 34 := by
  unfold m_XR_put_96 at h
  obtain ⟨hi, h⟩ := tc_gd_some h
  exact (kp_XR_put_132 h).trans rfl
theorem kp_XR_put_65 {q : tc_S} {σ : tc_S} {l1 l3 l4 k0 k1 : Int32} (h : m_XR_put_65 σ l1 l3 l4 k0 k1 = some q) : tc_gf q 34 = tc_gf σ 34 := by
  unfold m_XR_put_65 at h
  obtain ⟨hi, h⟩ := tc_gd_some h
  by_cases hc : l4 = 0
  · have h := tc_ip hc h
    exact (kp_XR_put_96 h).trans rfl
  · have h := tc_in hc h
    exact (kp_XR_put_96 h).trans rfl
theorem kp_XR_put_35 {q : tc_S} {σ : tc_S} {l1 l3 k0 : Int32} (h : m_XR_put_35 σ l1 l3 k0 = some q) : tc_gf q 34 = tc_gf σ 34 := by
  unfold m_XR_put_35 at h
  by_cases hc : k0 = 0
  · have h := tc_ip hc h
    exact (kp_XR_put_65 h).trans rfl
  · have h := tc_in hc h
    exact (kp_XR_put_65 h).trans rfl
theorem kp_XR_put_0 {q : tc_S} {σ : tc_S} {l1 : Int32} (h : m_XR_put σ l1 = some q) : tc_gf q 34 = tc_gf σ 34 := by
  unfold m_XR_put at h
  by_cases hc : ((tc_gf σ 20) &&& 15) = 1
  · have h := tc_ip hc h
    by_cases hc : ((tc_gf σ 19) - (tc_gf σ 19) / 2 * 2) = 1
    · have h := tc_ip hc h
      exact (kp_XR_put_35 h).trans rfl
    · have h := tc_in hc h
      exact (kp_XR_put_35 h).trans rfl
  · have h := tc_in hc h
    by_cases hc : ((tc_gf σ 20) &&& 15) = 3
    · have h := tc_ip hc h
      obtain ⟨hi, h⟩ := tc_gd_some h
      exact (kp_XR_put_132 h).trans rfl
    · have h := tc_in hc h
      by_cases hc : ((tc_gf σ 20) &&& 15) = 5
      · have h := tc_ip hc h
        obtain ⟨hi, h⟩ := tc_gd_some h
        exact (kp_XR_put_132 h).trans rfl
      · have h := tc_in hc h
        exact (kp_XR_put_132 h).trans rfl
theorem kp_XR_put {q : tc_S} {σ : tc_S} {l1 : Int32} (h : m_XR_put σ l1 = some q) : tc_gf q 34 = tc_gf σ 34 := kp_XR_put_0 h
theorem kp_XR_writeData_67 {q : tc_S} {σ : tc_S} (h : m_XR_writeData_67 σ = some q) : tc_gf q 34 = tc_gf σ 34 := by
  unfold m_XR_writeData_67 at h
  cases h
  exact rfl
theorem kp_XR_writeData_29 {q : tc_S} : ∀ (n : Nat) {σ : tc_S} {l1 l2 l3 : Int32} (h : m_XR_writeData_29 n σ l1 l2 l3 = some q), tc_gf q 34 = tc_gf σ 34 := by
  intro n
  induction n with
  | zero =>
    intro σ l1 l2 l3 h
    exact absurd h (by simp [m_XR_writeData_29])
  | succ n ih =>
    intro σ l1 l2 l3 h
    unfold m_XR_writeData_29 at h
    by_cases hc : l2 ≤ l3
    · have h := tc_ip hc h
      obtain ⟨q64, e64, h⟩ := tc_bd_some h
      have k64 := (kp_XR_endMove e64).trans rfl
      exact (kp_XR_writeData_67 h).trans k64
    · have h := tc_in hc h
      obtain ⟨hi, h⟩ := tc_gd_some h
      obtain ⟨q54, e54, h⟩ := tc_bd_some h
      have k54 := (kp_XR_grow e54).trans rfl
      exact (ih h).trans k54
theorem kp_XR_writeData_0 {q : tc_S} {σ : tc_S} {l1 : Int32} (h : m_XR_writeData σ l1 = some q) : tc_gf q 34 = tc_gf σ 34 := by
  unfold m_XR_writeData at h
  obtain ⟨q7, e7, h⟩ := tc_bd_some h
  have k7 := (kp_XR_put e7).trans rfl
  by_cases hc : (tc_gf q7 22) = 0
  · have h := tc_ip hc h
    exact (kp_XR_writeData_67 h).trans k7
  · have h := tc_in hc h
    obtain ⟨q23, e23, h⟩ := tc_bd_some h
    have k23 := (kp_XR_length e23).trans k7
    exact (kp_XR_writeData_29 _ h).trans k23
theorem kp_XR_writeData {q : tc_S} {σ : tc_S} {l1 : Int32} (h : m_XR_writeData σ l1 = some q) : tc_gf q 34 = tc_gf σ 34 := kp_XR_writeData_0 h
theorem kp_XR_write_196 {q : tc_S} {σ : tc_S} (h : m_XR_write_196 σ = some q) : tc_gf q 34 = tc_gf σ 34 := by
  unfold m_XR_write_196 at h
  cases h
  exact rfl
theorem kp_XR_write_173 {q : tc_S} {σ : tc_S} {k0 : Int32} (h : m_XR_write_173 σ k0 = some q) : tc_gf q 34 = tc_gf σ 34 := by
  unfold m_XR_write_173 at h
  obtain ⟨q173, e173, h⟩ := tc_bd_some h
  have k173 := (kp_XR_resetSecond e173).trans rfl
  exact (kp_XR_write_196 h).trans k173
theorem kp_XR_write_145 {q : tc_S} {σ : tc_S} {k0 : Int32} (h : m_XR_write_145 σ k0 = some q) : tc_gf q 34 = tc_gf σ 34 := by
  unfold m_XR_write_145 at h
  obtain ⟨hz, h⟩ := tc_gb_some h
  exact (kp_XR_write_196 h).trans rfl
theorem kp_XR_write_92 {q : tc_S} {σ : tc_S} {l1 l2 : Int32} (h : m_XR_write_92 σ l1 l2 = some q) : tc_gf q 34 = tc_gf σ 34 := by
  unfold m_XR_write_92 at h
  by_cases hc : l1 = 1024
  · have h := tc_ip hc h
    obtain ⟨q101, e101, h⟩ := tc_bd_some h
    have k101 := (kp_XR_writeData e101).trans rfl
    exact (kp_XR_write_196 h).trans k101
  · have h := tc_in hc h
    by_cases hc : l1 = 1028
    · have h := tc_ip hc h
      obtain ⟨q116, e116, h⟩ := tc_bd_some h
      have k116 := (kp_XR_control e116).trans rfl
      exact (kp_XR_write_196 h).trans k116
    · have h := tc_in hc h
      by_cases hc : l1 = 1040
      · have h := tc_ip hc h
        by_cases hc : ((l2 >>> ((8 : Int32) &&& 31)) &&& 1) = 1
        · have h := tc_ip hc h
          exact (kp_XR_write_145 h).trans rfl
        · have h := tc_in hc h
          exact (kp_XR_write_145 h).trans rfl
      · have h := tc_in hc h
        by_cases hc : l1 = 1044
        · have h := tc_ip hc h
          by_cases hc : ((l2 >>> ((8 : Int32) &&& 31)) &&& 1) = 0
          · have h := tc_ip hc h
            exact (kp_XR_write_173 h).trans rfl
          · have h := tc_in hc h
            exact (kp_XR_write_173 h).trans rfl
        · have h := tc_in hc h
          by_cases hc : l1 = 1048
          · have h := tc_ip hc h
            exact (kp_XR_write_196 h).trans rfl
          · have h := tc_in hc h
            exact (kp_XR_write_196 h).trans rfl
theorem kp_XR_write_54 {q : tc_S} {σ : tc_S} {l1 l2 : Int32} (h : m_XR_write_54 σ l1 l2 = some q) : tc_gf q 34 = tc_gf σ 34 := by
  unfold m_XR_write_54 at h
  by_cases hc : l1 < 768
  · have h := tc_ip hc h
    exact (kp_XR_write_92 h).trans rfl
  · have h := tc_in hc h
    by_cases hc : 896 ≤ l1
    · have h := tc_ip hc h
      exact (kp_XR_write_92 h).trans rfl
    · have h := tc_in hc h
      obtain ⟨q69, e69, h⟩ := tc_bd_some h
      have k69 := (kp_XR_isOut e69).trans rfl
      by_cases hc : q69.1 = 0
      · have h := tc_ip hc h
        exact (kp_XR_write_92 h).trans k69
      · have h := tc_in hc h
        obtain ⟨hi, h⟩ := tc_gd_some h
        exact (kp_XR_write_196 h).trans k69
theorem kp_XR_write_0 {q : tc_S} {σ : tc_S} {l1 l2 : Int32} (h : m_XR_write σ l1 l2 = some q) : tc_gf q 34 = tc_gf σ 34 := by
  unfold m_XR_write at h
  by_cases hc : (l1 - l1 / 2 * 2) = 1
  · have h := tc_ip hc h
    cases h
    exact rfl
  · have h := tc_in hc h
    by_cases hc : l1 < 512
    · have h := tc_ip hc h
      exact (kp_XR_write_54 h).trans rfl
    · have h := tc_in hc h
      by_cases hc : 640 ≤ l1
      · have h := tc_ip hc h
        exact (kp_XR_write_54 h).trans rfl
      · have h := tc_in hc h
        obtain ⟨hi, h⟩ := tc_gd_some h
        obtain ⟨hi, h⟩ := tc_gd_some h
        exact (kp_XR_write_196 h).trans rfl
theorem kp_XR_write {q : tc_S} {σ : tc_S} {l1 l2 : Int32} (h : m_XR_write σ l1 l2 = some q) : tc_gf q 34 = tc_gf σ 34 := kp_XR_write_0 h
theorem kp_XR_testWord_25 {q : tc_S} {σ : tc_S} {k0 : Int32} (h : m_XR_testWord_25 σ k0 = some q) : tc_gf q 34 = tc_gf σ 34 := by
  unfold m_XR_testWord_25 at h
  obtain ⟨hz, h⟩ := tc_gb_some h
  cases h
  exact rfl
theorem kp_XR_testWord_12 {q : tc_S} {σ : tc_S} {l1 k0 : Int32} (h : m_XR_testWord_12 σ l1 k0 = some q) : tc_gf q 34 = tc_gf σ 34 := by
  unfold m_XR_testWord_12 at h
  obtain ⟨hz, h⟩ := tc_gb_some h
  by_cases hc : l1 = 0
  · have h := tc_ip hc h
    exact (kp_XR_testWord_25 h).trans rfl
  · have h := tc_in hc h
    exact (kp_XR_testWord_25 h).trans rfl
theorem kp_XR_testWord_0 {q : tc_S} {σ : tc_S} {l1 : Int32} (h : m_XR_testWord σ l1 = some q) : tc_gf q 34 = tc_gf σ 34 := by
  unfold m_XR_testWord at h
  by_cases hc : l1 < 32768
  · have h := tc_ip hc h
    exact (kp_XR_testWord_12 h).trans rfl
  · have h := tc_in hc h
    exact (kp_XR_testWord_12 h).trans rfl
theorem kp_XR_testWord {q : tc_S} {σ : tc_S} {l1 : Int32} (h : m_XR_testWord σ l1 = some q) : tc_gf q 34 = tc_gf σ 34 := kp_XR_testWord_0 h
theorem kp_XR_vramWord_0 {q : Int32 × tc_S} {σ : tc_S} {l1 : Int32} (h : m_XR_vramWord σ l1 = some q) : tc_gf q.2 34 = tc_gf σ 34 := by
  unfold m_XR_vramWord at h
  obtain ⟨hi, h⟩ := tc_gd_some h
  obtain ⟨hi, h⟩ := tc_gd_some h
  cases h
  exact rfl
theorem kp_XR_vramWord {q : Int32 × tc_S} {σ : tc_S} {l1 : Int32} (h : m_XR_vramWord σ l1 = some q) : tc_gf q.2 34 = tc_gf σ 34 := kp_XR_vramWord_0 h
theorem kp_XR_readData_72 {q : Int32 × tc_S} {σ : tc_S} {l3 : Int32} (h : m_XR_readData_72 σ l3 = some q) : tc_gf q.2 34 = tc_gf σ 34 := by
  unfold m_XR_readData_72 at h
  obtain ⟨q73, e73, h⟩ := tc_bd_some h
  have k73 := (kp_XR_grow e73).trans rfl
  cases h
  exact k73
theorem kp_XR_readData_0 {q : Int32 × tc_S} {σ : tc_S} (h : m_XR_readData σ = some q) : tc_gf q.2 34 = tc_gf σ 34 := by
  unfold m_XR_readData at h
  by_cases hc : ((tc_gf (tc_sf σ 21 0) 20) &&& 15) = 0
  · have h := tc_ip hc h
    obtain ⟨q32, e32, h⟩ := tc_bd_some h
    have k32 := (kp_XR_vramWord e32).trans rfl
    exact (kp_XR_readData_72 h).trans k32
  · have h := tc_in hc h
    by_cases hc : ((tc_gf (tc_sf σ 21 0) 20) &&& 15) = 8
    · have h := tc_ip hc h
      obtain ⟨hi, h⟩ := tc_gd_some h
      exact (kp_XR_readData_72 h).trans rfl
    · have h := tc_in hc h
      by_cases hc : ((tc_gf (tc_sf σ 21 0) 20) &&& 15) = 4
      · have h := tc_ip hc h
        obtain ⟨hi, h⟩ := tc_gd_some h
        exact (kp_XR_readData_72 h).trans rfl
      · have h := tc_in hc h
        exact (kp_XR_readData_72 h).trans rfl
theorem kp_XR_readData {q : Int32 × tc_S} {σ : tc_S} (h : m_XR_readData σ = some q) : tc_gf q.2 34 = tc_gf σ 34 := kp_XR_readData_0 h
theorem kp_XR_status_68 {q : Int32 × tc_S} {σ : tc_S} {k0 k1 : Int32} (h : m_XR_status_68 σ k0 k1 = some q) : tc_gf q.2 34 = tc_gf σ 34 := by
  unfold m_XR_status_68 at h
  cases h
  exact rfl
theorem kp_XR_status_54 {q : Int32 × tc_S} {σ : tc_S} {k0 k1 : Int32} (h : m_XR_status_54 σ k0 k1 = some q) : tc_gf q.2 34 = tc_gf σ 34 := by
  unfold m_XR_status_54 at h
  by_cases hc : (tc_gf σ 26) = 0
  · have h := tc_ip hc h
    exact (kp_XR_status_68 h).trans rfl
  · have h := tc_in hc h
    exact (kp_XR_status_68 h).trans rfl
theorem kp_XR_status_40 {q : Int32 × tc_S} {σ : tc_S} {k0 k1 : Int32} (h : m_XR_status_40 σ k0 k1 = some q) : tc_gf q.2 34 = tc_gf σ 34 := by
  unfold m_XR_status_40 at h
  by_cases hc : (tc_gf σ 25) = 0
  · have h := tc_ip hc h
    exact (kp_XR_status_54 h).trans rfl
  · have h := tc_in hc h
    exact (kp_XR_status_54 h).trans rfl
theorem kp_XR_status_26 {q : Int32 × tc_S} {σ : tc_S} {k0 k1 : Int32} (h : m_XR_status_26 σ k0 k1 = some q) : tc_gf q.2 34 = tc_gf σ 34 := by
  unfold m_XR_status_26 at h
  by_cases hc : (tc_gf σ 31) = 0
  · have h := tc_ip hc h
    exact (kp_XR_status_40 h).trans rfl
  · have h := tc_in hc h
    exact (kp_XR_status_40 h).trans rfl
theorem kp_XR_status_12 {q : Int32 × tc_S} {σ : tc_S} {k0 : Int32} (h : m_XR_status_12 σ k0 = some q) : tc_gf q.2 34 = tc_gf σ 34 := by
  unfold m_XR_status_12 at h
  by_cases hc : (tc_gf σ 27) < 8
  · have h := tc_ip hc h
    exact (kp_XR_status_26 h).trans rfl
  · have h := tc_in hc h
    exact (kp_XR_status_26 h).trans rfl
theorem kp_XR_status_0 {q : Int32 × tc_S} {σ : tc_S} (h : m_XR_status σ = some q) : tc_gf q.2 34 = tc_gf σ 34 := by
  unfold m_XR_status at h
  by_cases hc : (tc_gf σ 23) ≤ 0
  · have h := tc_ip hc h
    exact (kp_XR_status_12 h).trans rfl
  · have h := tc_in hc h
    exact (kp_XR_status_12 h).trans rfl
theorem kp_XR_status {q : Int32 × tc_S} {σ : tc_S} (h : m_XR_status σ = some q) : tc_gf q.2 34 = tc_gf σ 34 := kp_XR_status_0 h
theorem kp_XR_padWord_46 {q : Int32 × tc_S} {σ : tc_S} {k0 : Int32} (h : m_XR_padWord_46 σ k0 = some q) : tc_gf q.2 34 = tc_gf σ 34 := by
  unfold m_XR_padWord_46 at h
  cases h
  exact rfl
theorem kp_XR_padWord_0 {q : Int32 × tc_S} {σ : tc_S} (h : m_XR_padWord σ = some q) : tc_gf q.2 34 = tc_gf σ 34 := by
  unfold m_XR_padWord at h
  by_cases hc : (tc_gf σ 33) = 1
  · have h := tc_ip hc h
    exact (kp_XR_padWord_46 h).trans rfl
  · have h := tc_in hc h
    exact (kp_XR_padWord_46 h).trans rfl
theorem kp_XR_padWord {q : Int32 × tc_S} {σ : tc_S} (h : m_XR_padWord σ = some q) : tc_gf q.2 34 = tc_gf σ 34 := kp_XR_padWord_0 h
theorem kp_XR_read_102 {q : Int32 × tc_S} {σ : tc_S} {k0 : Int32} (h : m_XR_read_102 σ k0 = some q) : tc_gf q.2 34 = tc_gf σ 34 := by
  unfold m_XR_read_102 at h
  cases h
  exact rfl
theorem kp_XR_read_0 {q : Int32 × tc_S} {σ : tc_S} {l1 : Int32} (h : m_XR_read σ l1 = some q) : tc_gf q.2 34 = tc_gf σ 34 := by
  unfold m_XR_read at h
  by_cases hc : 1024 ≤ l1
  · have h := tc_ip hc h
    by_cases hc0 : l1 = 1024
    · have h := tc_ip hc0 h
      obtain ⟨q65, e65, h⟩ := tc_bd_some h
      have k65 := (kp_XR_readData e65).trans rfl
      cases h
      exact k65
    have h := tc_in hc0 h
    by_cases hc1 : l1 = 1028
    · have h := tc_ip hc1 h
      obtain ⟨q70, e70, h⟩ := tc_bd_some h
      have k70 := (kp_XR_status e70).trans rfl
      cases h
      exact k70
    have h := tc_in hc1 h
    by_cases hc2 : l1 = 1032
    · have h := tc_ip hc2 h
      cases h
      exact rfl
    have h := tc_in hc2 h
    by_cases hc3 : l1 = 1040
    · have h := tc_ip hc3 h
      by_cases hc : (tc_gf σ 15) = 0
      · have h := tc_ip hc h
        exact (kp_XR_read_102 h).trans rfl
      · have h := tc_in hc h
        exact (kp_XR_read_102 h).trans rfl
    have h := tc_in hc3 h
    by_cases hc4 : l1 = 1048
    · have h := tc_ip hc4 h
      obtain ⟨q104, e104, h⟩ := tc_bd_some h
      have k104 := (kp_XR_padWord e104).trans rfl
      cases h
      exact k104
    have h := tc_in hc4 h
    cases h
    exact rfl
  · have h := tc_in hc h
    obtain ⟨q9, e9, h⟩ := tc_bd_some h
    have k9 := (kp_XR_quiet e9).trans rfl
    cases h
    exact k9
theorem kp_XR_read {q : Int32 × tc_S} {σ : tc_S} {l1 : Int32} (h : m_XR_read σ l1 = some q) : tc_gf q.2 34 = tc_gf σ 34 := kp_XR_read_0 h
theorem kp_XR_move_227 {q : Int32 × tc_S} {σ : tc_S} {l1 l2 l3 l4 : Int32} (h : m_XR_move_227 σ l1 l2 l3 l4 = some q) : tc_gf q.2 34 = tc_gf σ 34 := by
  unfold m_XR_move_227 at h
  by_cases hc : l1 = 12796
  · have h := tc_ip hc h
    obtain ⟨q235, e235, h⟩ := tc_bd_some h
    have k235 := (kp_XR_fetch e235).trans rfl
    obtain ⟨q242, e242, h⟩ := tc_bd_some h
    have k242 := (kp_XR_fetch e242).trans k235
    obtain ⟨q247, e247, h⟩ := tc_bd_some h
    have k247 := (kp_XR_write e247).trans k242
    obtain ⟨q253, e253, h⟩ := tc_bd_some h
    have k253 := (kp_XR_testWord e253).trans k247
    cases h
    exact k253
  · have h := tc_in hc h
    by_cases hc : l4 = 53312
    · have h := tc_ip hc h
      obtain ⟨hi, h⟩ := tc_gd_some h
      obtain ⟨hi, h⟩ := tc_gd_some h
      obtain ⟨q288, e288, h⟩ := tc_bd_some h
      have k288 := (kp_XR_add e288).trans rfl
      obtain ⟨q291, e291, h⟩ := tc_bd_some h
      have k291 := (kp_XR_setLow e291).trans k288
      cases h
      exact k291
    · have h := tc_in hc h
      by_cases hc : l4 = 45120
      · have h := tc_ip hc h
        obtain ⟨hi, h⟩ := tc_gd_some h
        obtain ⟨hi, h⟩ := tc_gd_some h
        obtain ⟨q323, e323, h⟩ := tc_bd_some h
        have k323 := (kp_XR_add e323).trans rfl
        cases h
        exact k323
      · have h := tc_in hc h
        cases h
        exact rfl
theorem kp_XR_move_183 {q : Int32 × tc_S} {σ : tc_S} {l1 l2 l3 l4 : Int32} (h : m_XR_move_183 σ l1 l2 l3 l4 = some q) : tc_gf q.2 34 = tc_gf σ 34 := by
  unfold m_XR_move_183 at h
  by_cases hc : l1 < 12736
  · have h := tc_ip hc h
    exact (kp_XR_move_227 h).trans rfl
  · have h := tc_in hc h
    by_cases hc : 12744 ≤ l1
    · have h := tc_ip hc h
      exact (kp_XR_move_227 h).trans rfl
    · have h := tc_in hc h
      obtain ⟨hi, h⟩ := tc_gd_some h
      obtain ⟨q210, e210, h⟩ := tc_bd_some h
      have k210 := (kp_XR_fetch e210).trans rfl
      obtain ⟨q215, e215, h⟩ := tc_bd_some h
      have k215 := (kp_XR_write e215).trans k210
      obtain ⟨q221, e221, h⟩ := tc_bd_some h
      have k221 := (kp_XR_testWord e221).trans k215
      cases h
      exact k221
theorem kp_XR_move_93 {q : Int32 × tc_S} {σ : tc_S} {k0 : Int32} (h : m_XR_move_93 σ k0 = some q) : tc_gf q.2 34 = tc_gf σ 34 := by
  unfold m_XR_move_93 at h
  obtain ⟨hz, h⟩ := tc_gb_some h
  cases h
  exact rfl
theorem kp_XR_move_75 {q : Int32 × tc_S} {σ : tc_S} {l2 k0 : Int32} (h : m_XR_move_75 σ l2 k0 = some q) : tc_gf q.2 34 = tc_gf σ 34 := by
  unfold m_XR_move_75 at h
  obtain ⟨hz, h⟩ := tc_gb_some h
  obtain ⟨hi, h⟩ := tc_gd_some h
  by_cases hc : (tc_ga (tc_sf σ 3 k0) 0 l2) = 0
  · have h := tc_ip hc h
    exact (kp_XR_move_93 h).trans rfl
  · have h := tc_in hc h
    exact (kp_XR_move_93 h).trans rfl
theorem kp_XR_move_59 {q : Int32 × tc_S} {σ : tc_S} {l2 k0 k1 : Int32} (h : m_XR_move_59 σ l2 k0 k1 = some q) : tc_gf q.2 34 = tc_gf σ 34 := by
  unfold m_XR_move_59 at h
  obtain ⟨hi, h⟩ := tc_gd_some h
  obtain ⟨hi, h⟩ := tc_gd_some h
  by_cases hc : 0 ≤ (tc_ga (tc_sa σ 0 k1 k0) 0 l2)
  · have h := tc_ip hc h
    exact (kp_XR_move_75 h).trans rfl
  · have h := tc_in hc h
    exact (kp_XR_move_75 h).trans rfl
theorem kp_XR_move_0 {q : Int32 × tc_S} {σ : tc_S} {l1 : Int32} (h : m_XR_move σ l1 = some q) : tc_gf q.2 34 = tc_gf σ 34 := by
  unfold m_XR_move at h
  by_cases hc : (l1 &&& 61696) = 28672
  · have h := tc_ip hc h
    by_cases hc : (l1 &&& 255) ≤ 127
    · have h := tc_ip hc h
      exact (kp_XR_move_59 h).trans rfl
    · have h := tc_in hc h
      exact (kp_XR_move_59 h).trans rfl
  · have h := tc_in hc h
    by_cases hc : (l1 &&& 61944) = 12288
    · have h := tc_ip hc h
      obtain ⟨hi, h⟩ := tc_gd_some h
      obtain ⟨q127, e127, h⟩ := tc_bd_some h
      have k127 := (kp_XR_setLow e127).trans rfl
      obtain ⟨hi, h⟩ := tc_gd_some h
      obtain ⟨q140, e140, h⟩ := tc_bd_some h
      have k140 := (kp_XR_testWord e140).trans k127
      cases h
      exact k140
    · have h := tc_in hc h
      by_cases hc : (l1 &&& 61944) = 12344
      · have h := tc_ip hc h
        by_cases hc : (l1 &&& 7) = 0
        · have h := tc_ip hc h
          obtain ⟨q159, e159, h⟩ := tc_bd_some h
          have k159 := (kp_XR_fetch e159).trans rfl
          obtain ⟨q162, e162, h⟩ := tc_bd_some h
          have k162 := (kp_XR_read e162).trans k159
          obtain ⟨q171, e171, h⟩ := tc_bd_some h
          have k171 := (kp_XR_setLow e171).trans k162
          obtain ⟨q177, e177, h⟩ := tc_bd_some h
          have k177 := (kp_XR_testWord e177).trans k171
          cases h
          exact k177
        · have h := tc_in hc h
          exact (kp_XR_move_183 h).trans rfl
      · have h := tc_in hc h
        exact (kp_XR_move_183 h).trans rfl
theorem kp_XR_move {q : Int32 × tc_S} {σ : tc_S} {l1 : Int32} (h : m_XR_move σ l1 = some q) : tc_gf q.2 34 = tc_gf σ 34 := kp_XR_move_0 h
theorem kp_XR_flagWord_60 {q : Int32 × tc_S} {σ : tc_S} {k0 k1 : Int32} (h : m_XR_flagWord_60 σ k0 k1 = some q) : tc_gf q.2 34 = tc_gf σ 34 := by
  unfold m_XR_flagWord_60 at h
  cases h
  exact rfl
theorem kp_XR_flagWord_47 {q : Int32 × tc_S} {σ : tc_S} {k0 k1 : Int32} (h : m_XR_flagWord_47 σ k0 k1 = some q) : tc_gf q.2 34 = tc_gf σ 34 := by
  unfold m_XR_flagWord_47 at h
  by_cases hc : (tc_gf σ 6) = 0
  · have h := tc_ip hc h
    exact (kp_XR_flagWord_60 h).trans rfl
  · have h := tc_in hc h
    exact (kp_XR_flagWord_60 h).trans rfl
theorem kp_XR_flagWord_34 {q : Int32 × tc_S} {σ : tc_S} {k0 k1 : Int32} (h : m_XR_flagWord_34 σ k0 k1 = some q) : tc_gf q.2 34 = tc_gf σ 34 := by
  unfold m_XR_flagWord_34 at h
  by_cases hc : (tc_gf σ 5) = 0
  · have h := tc_ip hc h
    exact (kp_XR_flagWord_47 h).trans rfl
  · have h := tc_in hc h
    exact (kp_XR_flagWord_47 h).trans rfl
theorem kp_XR_flagWord_21 {q : Int32 × tc_S} {σ : tc_S} {k0 k1 : Int32} (h : m_XR_flagWord_21 σ k0 k1 = some q) : tc_gf q.2 34 = tc_gf σ 34 := by
  unfold m_XR_flagWord_21 at h
  by_cases hc : (tc_gf σ 4) = 0
  · have h := tc_ip hc h
    exact (kp_XR_flagWord_34 h).trans rfl
  · have h := tc_in hc h
    exact (kp_XR_flagWord_34 h).trans rfl
theorem kp_XR_flagWord_0 {q : Int32 × tc_S} {σ : tc_S} (h : m_XR_flagWord σ = some q) : tc_gf q.2 34 = tc_gf σ 34 := by
  unfold m_XR_flagWord at h
  by_cases hc : (tc_gf σ 3) = 0
  · have h := tc_ip hc h
    exact (kp_XR_flagWord_21 h).trans rfl
  · have h := tc_in hc h
    exact (kp_XR_flagWord_21 h).trans rfl
theorem kp_XR_flagWord {q : Int32 × tc_S} {σ : tc_S} (h : m_XR_flagWord σ = some q) : tc_gf q.2 34 = tc_gf σ 34 := kp_XR_flagWord_0 h
theorem kp_XR_exception_0 {q : tc_S} {σ : tc_S} {l1 : Int32} (h : m_XR_exception σ l1 = some q) : tc_gf q 34 = tc_gf σ 34 := by
  unfold m_XR_exception at h
  obtain ⟨q12, e12, h⟩ := tc_bd_some h
  have k12 := (kp_XR_flagWord e12).trans rfl
  obtain ⟨q15, e15, h⟩ := tc_bd_some h
  have k15 := (kp_XR_write e15).trans k12
  obtain ⟨q29, e29, h⟩ := tc_bd_some h
  have k29 := (kp_XR_write e29).trans k15
  obtain ⟨q46, e46, h⟩ := tc_bd_some h
  have k46 := (kp_XR_write e46).trans k29
  obtain ⟨q70, e70, h⟩ := tc_bd_some h
  have k70 := (kp_XR_quiet e70).trans k46
  cases h
  exact k70
theorem kp_XR_exception {q : tc_S} {σ : tc_S} {l1 : Int32} (h : m_XR_exception σ l1 = some q) : tc_gf q 34 = tc_gf σ 34 := kp_XR_exception_0 h
theorem kp_XR_holds_120 {q : Int32 × tc_S} {σ : tc_S} (h : m_XR_holds_120 σ = some q) : tc_gf q.2 34 = tc_gf σ 34 := by
  unfold m_XR_holds_120 at h
  cases h
  exact rfl
theorem kp_XR_holds_101 {q : Int32 × tc_S} {σ : tc_S} {k0 : Int32} (h : m_XR_holds_101 σ k0 = some q) : tc_gf q.2 34 = tc_gf σ 34 := by
  unfold m_XR_holds_101 at h
  obtain ⟨hz, h⟩ := tc_gb_some h
  cases h
  exact rfl
theorem kp_XR_holds_83 {q : Int32 × tc_S} {σ : tc_S} {k0 : Int32} (h : m_XR_holds_83 σ k0 = some q) : tc_gf q.2 34 = tc_gf σ 34 := by
  unfold m_XR_holds_83 at h
  obtain ⟨hz, h⟩ := tc_gb_some h
  cases h
  exact rfl
theorem kp_XR_holds_119 {q : Int32 × tc_S} {σ : tc_S} {k0 : Int32} (h : m_XR_holds_119 σ k0 = some q) : tc_gf q.2 34 = tc_gf σ 34 := by
  unfold m_XR_holds_119 at h
  obtain ⟨hz, h⟩ := tc_gb_some h
  cases h
  exact rfl
theorem kp_XR_holds_0 {q : Int32 × tc_S} {σ : tc_S} {l1 : Int32} (h : m_XR_holds σ l1 = some q) : tc_gf q.2 34 = tc_gf σ 34 := by
  unfold m_XR_holds at h
  by_cases hc0 : l1 = 0
  · have h := tc_ip hc0 h
    cases h
    exact rfl
  have h := tc_in hc0 h
  by_cases hc1 : l1 = 1
  · have h := tc_ip hc1 h
    exact (kp_XR_holds_120 h).trans rfl
  have h := tc_in hc1 h
  by_cases hc2 : l1 = 2
  · have h := tc_ip hc2 h
    exact (kp_XR_holds_120 h).trans rfl
  have h := tc_in hc2 h
  by_cases hc3 : l1 = 3
  · have h := tc_ip hc3 h
    exact (kp_XR_holds_120 h).trans rfl
  have h := tc_in hc3 h
  by_cases hc4 : l1 = 4
  · have h := tc_ip hc4 h
    by_cases hc : (tc_gf σ 6) = 0
    · have h := tc_ip hc h
      exact (kp_XR_holds_101 h).trans rfl
    · have h := tc_in hc h
      exact (kp_XR_holds_101 h).trans rfl
  have h := tc_in hc4 h
  by_cases hc5 : l1 = 5
  · have h := tc_ip hc5 h
    obtain ⟨hz, h⟩ := tc_gb_some h
    cases h
    exact rfl
  have h := tc_in hc5 h
  by_cases hc6 : l1 = 6
  · have h := tc_ip hc6 h
    by_cases hc : (tc_gf σ 4) = 0
    · have h := tc_ip hc h
      exact (kp_XR_holds_83 h).trans rfl
    · have h := tc_in hc h
      exact (kp_XR_holds_83 h).trans rfl
  have h := tc_in hc6 h
  by_cases hc7 : l1 = 7
  · have h := tc_ip hc7 h
    obtain ⟨hz, h⟩ := tc_gb_some h
    cases h
    exact rfl
  have h := tc_in hc7 h
  by_cases hc8 : l1 = 8
  · have h := tc_ip hc8 h
    exact (kp_XR_holds_120 h).trans rfl
  have h := tc_in hc8 h
  by_cases hc9 : l1 = 9
  · have h := tc_ip hc9 h
    exact (kp_XR_holds_120 h).trans rfl
  have h := tc_in hc9 h
  by_cases hc10 : l1 = 10
  · have h := tc_ip hc10 h
    by_cases hc : (tc_gf σ 3) = 0
    · have h := tc_ip hc h
      exact (kp_XR_holds_119 h).trans rfl
    · have h := tc_in hc h
      exact (kp_XR_holds_119 h).trans rfl
  have h := tc_in hc10 h
  by_cases hc11 : l1 = 11
  · have h := tc_ip hc11 h
    obtain ⟨hz, h⟩ := tc_gb_some h
    cases h
    exact rfl
  have h := tc_in hc11 h
  exact (kp_XR_holds_120 h).trans rfl
theorem kp_XR_holds {q : Int32 × tc_S} {σ : tc_S} {l1 : Int32} (h : m_XR_holds σ l1 = some q) : tc_gf q.2 34 = tc_gf σ 34 := kp_XR_holds_0 h
theorem kp_XR_branch_55 {q : Int32 × tc_S} {σ : tc_S} {k0 k1 : Int32} (h : m_XR_branch_55 σ k0 k1 = some q) : tc_gf q.2 34 = tc_gf σ 34 := by
  unfold m_XR_branch_55 at h
  cases h
  exact rfl
theorem kp_XR_branch_0 {q : Int32 × tc_S} {σ : tc_S} {l1 : Int32} (h : m_XR_branch σ l1 = some q) : tc_gf q.2 34 = tc_gf σ 34 := by
  unfold m_XR_branch at h
  by_cases hc : (l1 &&& 255) = 0
  · have h := tc_ip hc h
    cases h
    exact rfl
  · have h := tc_in hc h
    obtain ⟨q20, e20, h⟩ := tc_bd_some h
    have k20 := (kp_XR_holds e20).trans rfl
    by_cases hc : q20.1 = 0
    · have h := tc_ip hc h
      cases h
      exact k20
    · have h := tc_in hc h
      by_cases hc : (l1 &&& 255) ≤ 127
      · have h := tc_ip hc h
        exact (kp_XR_branch_55 h).trans k20
      · have h := tc_in hc h
        exact (kp_XR_branch_55 h).trans k20
theorem kp_XR_branch {q : Int32 × tc_S} {σ : tc_S} {l1 : Int32} (h : m_XR_branch σ l1 = some q) : tc_gf q.2 34 = tc_gf σ 34 := kp_XR_branch_0 h
theorem kp_XR_setFlagWord_69 {q : tc_S} {σ : tc_S} {k0 : Int32} (h : m_XR_setFlagWord_69 σ k0 = some q) : tc_gf q 34 = tc_gf σ 34 := by
  unfold m_XR_setFlagWord_69 at h
  obtain ⟨hz, h⟩ := tc_gb_some h
  cases h
  exact rfl
theorem kp_XR_setFlagWord_54 {q : tc_S} {σ : tc_S} {l1 k0 : Int32} (h : m_XR_setFlagWord_54 σ l1 k0 = some q) : tc_gf q 34 = tc_gf σ 34 := by
  unfold m_XR_setFlagWord_54 at h
  obtain ⟨hz, h⟩ := tc_gb_some h
  by_cases hc : (l1 &&& 1) = 0
  · have h := tc_ip hc h
    exact (kp_XR_setFlagWord_69 h).trans rfl
  · have h := tc_in hc h
    exact (kp_XR_setFlagWord_69 h).trans rfl
theorem kp_XR_setFlagWord_39 {q : tc_S} {σ : tc_S} {l1 k0 : Int32} (h : m_XR_setFlagWord_39 σ l1 k0 = some q) : tc_gf q 34 = tc_gf σ 34 := by
  unfold m_XR_setFlagWord_39 at h
  obtain ⟨hz, h⟩ := tc_gb_some h
  by_cases hc : (l1 &&& 2) = 0
  · have h := tc_ip hc h
    exact (kp_XR_setFlagWord_54 h).trans rfl
  · have h := tc_in hc h
    exact (kp_XR_setFlagWord_54 h).trans rfl
theorem kp_XR_setFlagWord_24 {q : tc_S} {σ : tc_S} {l1 k0 : Int32} (h : m_XR_setFlagWord_24 σ l1 k0 = some q) : tc_gf q 34 = tc_gf σ 34 := by
  unfold m_XR_setFlagWord_24 at h
  obtain ⟨hz, h⟩ := tc_gb_some h
  by_cases hc : (l1 &&& 4) = 0
  · have h := tc_ip hc h
    exact (kp_XR_setFlagWord_39 h).trans rfl
  · have h := tc_in hc h
    exact (kp_XR_setFlagWord_39 h).trans rfl
theorem kp_XR_setFlagWord_0 {q : tc_S} {σ : tc_S} {l1 : Int32} (h : m_XR_setFlagWord σ l1 = some q) : tc_gf q 34 = tc_gf σ 34 := by
  unfold m_XR_setFlagWord at h
  by_cases hc : (l1 &&& 8) = 0
  · have h := tc_ip hc h
    exact (kp_XR_setFlagWord_24 h).trans rfl
  · have h := tc_in hc h
    exact (kp_XR_setFlagWord_24 h).trans rfl
theorem kp_XR_setFlagWord {q : tc_S} {σ : tc_S} {l1 : Int32} (h : m_XR_setFlagWord σ l1 = some q) : tc_gf q 34 = tc_gf σ 34 := kp_XR_setFlagWord_0 h
theorem kp_XR_control2_136 {q : Int32 × tc_S} {σ : tc_S} {k0 : Int32} (h : m_XR_control2_136 σ k0 = some q) : tc_gf q.2 34 = tc_gf σ 34 := by
  unfold m_XR_control2_136 at h
  cases h
  exact rfl
theorem kp_XR_control2_118 {q : Int32 × tc_S} {σ : tc_S} {l1 : Int32} (h : m_XR_control2_118 σ l1 = some q) : tc_gf q.2 34 = tc_gf σ 34 := by
  unfold m_XR_control2_118 at h
  by_cases hc : (l1 >>> ((12 : Int32) &&& 31)) = 6
  · have h := tc_ip hc h
    obtain ⟨q129, e129, h⟩ := tc_bd_some h
    have k129 := (kp_XR_branch e129).trans rfl
    exact (kp_XR_control2_136 h).trans k129
  · have h := tc_in hc h
    exact (kp_XR_control2_136 h).trans rfl
theorem kp_XR_control2_0 {q : Int32 × tc_S} {σ : tc_S} {l1 : Int32} (h : m_XR_control2 σ l1 = some q) : tc_gf q.2 34 = tc_gf σ 34 := by
  unfold m_XR_control2 at h
  by_cases hc : l1 = 20081
  · have h := tc_ip hc h
    cases h
    exact rfl
  · have h := tc_in hc h
    by_cases hc : l1 = 20083
    · have h := tc_ip hc h
      obtain ⟨q21, e21, h⟩ := tc_bd_some h
      have k21 := (kp_XR_quiet e21).trans rfl
      obtain ⟨q36, e36, h⟩ := tc_bd_some h
      have k36 := (kp_XR_quiet e36).trans k21
      obtain ⟨q58, e58, h⟩ := tc_bd_some h
      have k58 := (kp_XR_setFlagWord e58).trans k36
      cases h
      exact k58
    · have h := tc_in hc h
      by_cases hc : l1 = 20082
      · have h := tc_ip hc h
        obtain ⟨q73, e73, h⟩ := tc_bd_some h
        have k73 := (kp_XR_fetch e73).trans rfl
        obtain ⟨q76, e76, h⟩ := tc_bd_some h
        have k76 := (kp_XR_setFlagWord e76).trans k73
        cases h
        exact k76
      · have h := tc_in hc h
        by_cases hc : l1 < 20064
        · have h := tc_ip hc h
          exact (kp_XR_control2_118 h).trans rfl
        · have h := tc_in hc h
          by_cases hc : 20072 ≤ l1
          · have h := tc_ip hc h
            exact (kp_XR_control2_118 h).trans rfl
          · have h := tc_in hc h
            obtain ⟨hi, h⟩ := tc_gd_some h
            cases h
            exact rfl
theorem kp_XR_control2 {q : Int32 × tc_S} {σ : tc_S} {l1 : Int32} (h : m_XR_control2 σ l1 = some q) : tc_gf q.2 34 = tc_gf σ 34 := kp_XR_control2_0 h
theorem kp_XR_instruction_50 {q : Int32 × tc_S} {σ : tc_S} {l2 : Int32} (h : m_XR_instruction_50 σ l2 = some q) : tc_gf q.2 34 = tc_gf σ 34 := by
  unfold m_XR_instruction_50 at h
  cases h
  exact rfl
theorem kp_XR_instruction_24 {q : Int32 × tc_S} {σ : tc_S} {k0 : Int32} (h : m_XR_instruction_24 σ k0 = some q) : tc_gf q.2 34 = tc_gf σ 34 := by
  unfold m_XR_instruction_24 at h
  by_cases hc : 0 ≤ k0
  · have h := tc_ip hc h
    exact (kp_XR_instruction_50 h).trans rfl
  · have h := tc_in hc h
    obtain ⟨q44, e44, h⟩ := tc_bd_some h
    have k44 := (kp_XR_exception e44).trans rfl
    exact (kp_XR_instruction_50 h).trans k44
theorem kp_XR_instruction_0 {q : Int32 × tc_S} {σ : tc_S} (h : m_XR_instruction σ = some q) : tc_gf q.2 34 = tc_gf σ 34 := by
  unfold m_XR_instruction at h
  obtain ⟨q1, e1, h⟩ := tc_bd_some h
  have k1 := (kp_XR_fetch e1).trans rfl
  obtain ⟨q7, e7, h⟩ := tc_bd_some h
  have k7 := (kp_XR_move e7).trans k1
  by_cases hc : 0 ≤ q7.1
  · have h := tc_ip hc h
    exact (kp_XR_instruction_24 h).trans k7
  · have h := tc_in hc h
    obtain ⟨q17, e17, h⟩ := tc_bd_some h
    have k17 := (kp_XR_control2 e17).trans k7
    exact (kp_XR_instruction_24 h).trans k17
theorem kp_XR_instruction {q : Int32 × tc_S} {σ : tc_S} (h : m_XR_instruction σ = some q) : tc_gf q.2 34 = tc_gf σ 34 := kp_XR_instruction_0 h
theorem kp_XR_interrupt_0 {q : Int32 × tc_S} {σ : tc_S} {l1 : Int32} (h : m_XR_interrupt σ l1 = some q) : tc_gf q.2 34 = tc_gf σ 34 := by
  unfold m_XR_interrupt at h
  obtain ⟨q5, e5, h⟩ := tc_bd_some h
  have k5 := (kp_XR_exception e5).trans rfl
  cases h
  exact k5
theorem kp_XR_interrupt {q : Int32 × tc_S} {σ : tc_S} {l1 : Int32} (h : m_XR_interrupt σ l1 = some q) : tc_gf q.2 34 = tc_gf σ 34 := kp_XR_interrupt_0 h
theorem kp_XR_moveWord_74 {q : tc_S} {σ : tc_S} (h : m_XR_moveWord_74 σ = some q) : tc_gf q 34 = tc_gf σ 34 := by
  unfold m_XR_moveWord_74 at h
  cases h
  exact rfl
theorem kp_XR_moveWord_23 {q : tc_S} {σ : tc_S} {k0 : Int32} (h : m_XR_moveWord_23 σ k0 = some q) : tc_gf q 34 = tc_gf σ 34 := by
  unfold m_XR_moveWord_23 at h
  obtain ⟨q23, e23, h⟩ := tc_bd_some h
  have k23 := (kp_XR_put e23).trans rfl
  by_cases hc : (tc_gf (tc_sf (tc_sf q23 24 ((((tc_gf q23 24) / 1024) * 1024) + (((tc_gf q23 24) + 2) - ((tc_gf q23 24) + 2) / 1024 * 1024))) 23 ((tc_gf (tc_sf q23 24 ((((tc_gf q23 24) / 1024) * 1024) + (((tc_gf q23 24) + 2) - ((tc_gf q23 24) + 2) / 1024 * 1024))) 23) - 1)) 23) = 0
  · have h := tc_ip hc h
    obtain ⟨q71, e71, h⟩ := tc_bd_some h
    have k71 := (kp_XR_endMove e71).trans k23
    exact (kp_XR_moveWord_74 h).trans k71
  · have h := tc_in hc h
    exact (kp_XR_moveWord_74 h).trans k23
theorem kp_XR_moveWord_0 {q : tc_S} {σ : tc_S} (h : m_XR_moveWord σ = some q) : tc_gf q 34 = tc_gf σ 34 := by
  unfold m_XR_moveWord at h
  by_cases hc : 768 ≤ (tc_gf σ 24)
  · have h := tc_ip hc h
    exact (kp_XR_moveWord_23 h).trans rfl
  · have h := tc_in hc h
    obtain ⟨q16, e16, h⟩ := tc_bd_some h
    have k16 := (kp_XR_quiet e16).trans rfl
    exact (kp_XR_moveWord_23 h).trans k16
theorem kp_XR_moveWord {q : tc_S} {σ : tc_S} (h : m_XR_moveWord σ = some q) : tc_gf q 34 = tc_gf σ 34 := kp_XR_moveWord_0 h
theorem kp_XR_load_0 {q : Int32 × tc_S} {σ : tc_S} {l1 : Int32} (h : m_XR_load σ l1 = some q) : tc_gf q.2 34 = tc_gf σ 34 := by
  unfold m_XR_load at h
  by_cases hc : 32768 ≤ l1
  · have h := tc_ip hc h
    obtain ⟨hi, h⟩ := tc_gd_some h
    cases h
    exact rfl
  · have h := tc_in hc h
    obtain ⟨hi, h⟩ := tc_gd_some h
    cases h
    exact rfl
theorem kp_XR_load {q : Int32 × tc_S} {σ : tc_S} {l1 : Int32} (h : m_XR_load σ l1 = some q) : tc_gf q.2 34 = tc_gf σ 34 := kp_XR_load_0 h
theorem kp_XR_next_0 {q : Int32 × tc_S} {σ : tc_S} (h : m_XR_next σ = some q) : tc_gf q.2 34 = tc_gf σ 34 := by
  unfold m_XR_next at h
  obtain ⟨q5, e5, h⟩ := tc_bd_some h
  have k5 := (kp_XR_load e5).trans rfl
  cases h
  exact k5
theorem kp_XR_next {q : Int32 × tc_S} {σ : tc_S} (h : m_XR_next σ = some q) : tc_gf q.2 34 = tc_gf σ 34 := kp_XR_next_0 h
theorem kp_XR_pair_0 {q : Int32 × tc_S} {σ : tc_S} (h : m_XR_pair σ = some q) : tc_gf q.2 34 = tc_gf σ 34 := by
  unfold m_XR_pair at h
  obtain ⟨q1, e1, h⟩ := tc_bd_some h
  have k1 := (kp_XR_next e1).trans rfl
  obtain ⟨q10, e10, h⟩ := tc_bd_some h
  have k10 := (kp_XR_next e10).trans k1
  cases h
  exact k10
theorem kp_XR_pair {q : Int32 × tc_S} {σ : tc_S} (h : m_XR_pair σ = some q) : tc_gf q.2 34 = tc_gf σ 34 := kp_XR_pair_0 h
theorem kp_XR_becomes_22 {q : tc_S} {σ : tc_S} {k0 : Int32} (h : m_XR_becomes_22 σ k0 = some q) : tc_gf q 34 = tc_gf σ 34 := by
  unfold m_XR_becomes_22 at h
  obtain ⟨hz, h⟩ := tc_gb_some h
  cases h
  exact rfl
theorem kp_XR_becomes_0 {q : tc_S} {σ : tc_S} {l1 : Int32} (h : m_XR_becomes σ l1 = some q) : tc_gf q 34 = tc_gf σ 34 := by
  unfold m_XR_becomes at h
  by_cases hc : (tc_gf (tc_sf σ 8 (l1 &&& 255)) 8) = 0
  · have h := tc_ip hc h
    exact (kp_XR_becomes_22 h).trans rfl
  · have h := tc_in hc h
    exact (kp_XR_becomes_22 h).trans rfl
theorem kp_XR_becomes {q : tc_S} {σ : tc_S} {l1 : Int32} (h : m_XR_becomes σ l1 = some q) : tc_gf q 34 = tc_gf σ 34 := kp_XR_becomes_0 h
theorem kp_XR_second_294 {q : Int32 × tc_S} {σ : tc_S} {k0 k1 : Int32} (h : m_XR_second_294 σ k0 k1 = some q) : tc_gf q.2 34 = tc_gf σ 34 := by
  unfold m_XR_second_294 at h
  cases h
  exact rfl
theorem kp_XR_second_241 {q : Int32 × tc_S} {σ : tc_S} (h : m_XR_second_241 σ = some q) : tc_gf q.2 34 = tc_gf σ 34 := by
  unfold m_XR_second_241 at h
  cases h
  exact rfl
theorem kp_XR_second_0 {q : Int32 × tc_S} {σ : tc_S} (h : m_XR_second σ = some q) : tc_gf q.2 34 = tc_gf σ 34 := by
  unfold m_XR_second at h
  obtain ⟨q1, e1, h⟩ := tc_bd_some h
  have k1 := (kp_XR_next e1).trans rfl
  by_cases hc0 : q1.1 = 32
  · have h := tc_ip hc0 h
    obtain ⟨q260, e260, h⟩ := tc_bd_some h
    have k260 := (kp_XR_next e260).trans k1
    by_cases hc : (tc_gf q260.2 12) = 0
    · have h := tc_ip hc h
      by_cases hc : q260.1 ≤ 127
      · have h := tc_ip hc h
        exact (kp_XR_second_294 h).trans k260
      · have h := tc_in hc h
        exact (kp_XR_second_294 h).trans k260
    · have h := tc_in hc h
      cases h
      exact k260
  have h := tc_in hc0 h
  by_cases hc1 : q1.1 = 50
  · have h := tc_ip hc1 h
    obtain ⟨q217, e217, h⟩ := tc_bd_some h
    have k217 := (kp_XR_pair e217).trans k1
    by_cases hc : 32768 ≤ q217.1
    · have h := tc_ip hc h
      exact (kp_XR_second_241 h).trans k217
    · have h := tc_in hc h
      obtain ⟨hi, h⟩ := tc_gd_some h
      exact (kp_XR_second_241 h).trans k217
  have h := tc_in hc1 h
  by_cases hc2 : q1.1 = 58
  · have h := tc_ip hc2 h
    obtain ⟨q247, e247, h⟩ := tc_bd_some h
    have k247 := (kp_XR_pair e247).trans k1
    obtain ⟨q250, e250, h⟩ := tc_bd_some h
    have k250 := (kp_XR_load e250).trans k247
    cases h
    exact k250
  have h := tc_in hc2 h
  by_cases hc3 : q1.1 = 60
  · have h := tc_ip hc3 h
    obtain ⟨q184, e184, h⟩ := tc_bd_some h
    have k184 := (kp_XR_becomes e184).trans k1
    cases h
    exact k184
  have h := tc_in hc3 h
  by_cases hc4 : q1.1 = 61
  · have h := tc_ip hc4 h
    obtain ⟨q211, e211, h⟩ := tc_bd_some h
    have k211 := (kp_XR_becomes e211).trans k1
    cases h
    exact k211
  have h := tc_in hc4 h
  by_cases hc5 : q1.1 = 62
  · have h := tc_ip hc5 h
    obtain ⟨q138, e138, h⟩ := tc_bd_some h
    have k138 := (kp_XR_next e138).trans k1
    cases h
    exact k138
  have h := tc_in hc5 h
  by_cases hc6 : q1.1 = 71
  · have h := tc_ip hc6 h
    cases h
    exact k1
  have h := tc_in hc6 h
  by_cases hc7 : q1.1 = 103
  · have h := tc_ip hc7 h
    cases h
    exact k1
  have h := tc_in hc7 h
  by_cases hc8 : q1.1 = 118
  · have h := tc_ip hc8 h
    cases h
    exact k1
  have h := tc_in hc8 h
  by_cases hc9 : q1.1 = 120
  · have h := tc_ip hc9 h
    cases h
    exact k1
  have h := tc_in hc9 h
  by_cases hc10 : q1.1 = 128
  · have h := tc_ip hc10 h
    obtain ⟨q199, e199, h⟩ := tc_bd_some h
    have k199 := (kp_XR_becomes e199).trans k1
    cases h
    exact k199
  have h := tc_in hc10 h
  by_cases hc11 : q1.1 = 195
  · have h := tc_ip hc11 h
    obtain ⟨q306, e306, h⟩ := tc_bd_some h
    have k306 := (kp_XR_pair e306).trans k1
    cases h
    exact k306
  have h := tc_in hc11 h
  by_cases hc12 : q1.1 = 201
  · have h := tc_ip hc12 h
    cases h
    exact k1
  have h := tc_in hc12 h
  by_cases hc13 : q1.1 = 243
  · have h := tc_ip hc13 h
    cases h
    exact k1
  have h := tc_in hc13 h
  by_cases hc14 : q1.1 = 251
  · have h := tc_ip hc14 h
    cases h
    exact k1
  have h := tc_in hc14 h
  cases h
  exact k1
theorem kp_XR_second {q : Int32 × tc_S} {σ : tc_S} (h : m_XR_second σ = some q) : tc_gf q.2 34 = tc_gf σ 34 := kp_XR_second_0 h
theorem kp_XR_give_45 {q : tc_S} {Z : tc_S → Option (tc_S)} (hZ : ∀ {σ : tc_S}, Z σ = some q → tc_gf q 34 = tc_gf σ 34) {σ : tc_S} {k0 : Int32} (h : m_XR_give_45 Z σ k0 = some q) : tc_gf q 34 = tc_gf σ 34 := by
  unfold m_XR_give_45 at h
  exact (hZ h).trans rfl
theorem kp_XR_give_18 {q : tc_S} : ∀ (n : Nat) {σ : tc_S} (h : m_XR_give_18 n σ = some q), tc_gf q 34 = tc_gf σ 34 := by
  intro n
  induction n with
  | zero =>
    intro σ  h
    exact absurd h (by simp [m_XR_give_18])
  | succ n ih =>
    intro σ  h
    unfold m_XR_give_18 at h
    by_cases hc : (tc_gf σ 17) ≤ 0
    · have h := tc_ip hc h
      cases h
      exact rfl
    · have h := tc_in hc h
      by_cases hc : (tc_gf (tc_sf σ 35 0) 13) = 0
      · have h := tc_ip hc h
        obtain ⟨q42, e42, h⟩ := tc_bd_some h
        have k42 := (kp_XR_second e42).trans rfl
        exact (kp_XR_give_45 (fun h => ih h) h).trans k42
      · have h := tc_in hc h
        exact (kp_XR_give_45 (fun h => ih h) h).trans rfl
theorem kp_XR_give_0 {q : tc_S} {σ : tc_S} {l1 : Int32} (h : m_XR_give σ l1 = some q) : tc_gf q 34 = tc_gf σ 34 := by
  unfold m_XR_give at h
  obtain ⟨q1, e1, h⟩ := tc_bd_some h
  have k1 := (kp_XR_isOut e1).trans rfl
  by_cases hc : q1.1 = 0
  · have h := tc_ip hc h
    exact (kp_XR_give_18 _ h).trans k1
  · have h := tc_in hc h
    cases h
    exact k1
theorem kp_XR_give {q : tc_S} {σ : tc_S} {l1 : Int32} (h : m_XR_give σ l1 = some q) : tc_gf q 34 = tc_gf σ 34 := kp_XR_give_0 h
theorem kp_XR_tellSecond_14 {q : tc_S} {σ : tc_S} (h : m_XR_tellSecond_14 σ = some q) : tc_gf q 34 = tc_gf σ 34 := by
  unfold m_XR_tellSecond_14 at h
  cases h
  exact rfl
theorem kp_XR_tellSecond_0 {q : tc_S} {σ : tc_S} (h : m_XR_tellSecond σ = some q) : tc_gf q 34 = tc_gf σ 34 := by
  unfold m_XR_tellSecond at h
  obtain ⟨q1, e1, h⟩ := tc_bd_some h
  have k1 := (kp_XR_isOut e1).trans rfl
  by_cases hc : q1.1 = 0
  · have h := tc_ip hc h
    by_cases hc : (tc_gf q1.2 14) = 0
    · have h := tc_ip hc h
      exact (kp_XR_tellSecond_14 h).trans k1
    · have h := tc_in hc h
      cases h
      exact k1
  · have h := tc_in hc h
    exact (kp_XR_tellSecond_14 h).trans k1
theorem kp_XR_tellSecond {q : tc_S} {σ : tc_S} (h : m_XR_tellSecond σ = some q) : tc_gf q 34 = tc_gf σ 34 := kp_XR_tellSecond_0 h
theorem kp_XR_spriteWord_0 {q : Int32 × tc_S} {σ : tc_S} {l1 l2 : Int32} (h : m_XR_spriteWord σ l1 l2 = some q) : tc_gf q.2 34 = tc_gf σ 34 := by
  unfold m_XR_spriteWord at h
  obtain ⟨hi, h⟩ := tc_gd_some h
  obtain ⟨q23, e23, h⟩ := tc_bd_some h
  have k23 := (kp_XR_vramWord e23).trans rfl
  cases h
  exact k23
theorem kp_XR_spriteWord {q : Int32 × tc_S} {σ : tc_S} {l1 l2 : Int32} (h : m_XR_spriteWord σ l1 l2 = some q) : tc_gf q.2 34 = tc_gf σ 34 := kp_XR_spriteWord_0 h
theorem kp_XR_patternPixel_85 {q : Int32 × tc_S} {σ : tc_S} {k0 : Int32} (h : m_XR_patternPixel_85 σ k0 = some q) : tc_gf q.2 34 = tc_gf σ 34 := by
  unfold m_XR_patternPixel_85 at h
  cases h
  exact rfl
theorem kp_XR_patternPixel_36 {q : Int32 × tc_S} {σ : tc_S} {l1 l4 k0 : Int32} (h : m_XR_patternPixel_36 σ l1 l4 k0 = some q) : tc_gf q.2 34 = tc_gf σ 34 := by
  unfold m_XR_patternPixel_36 at h
  obtain ⟨q48, e48, h⟩ := tc_bd_some h
  have k48 := (kp_XR_vramWord e48).trans rfl
  by_cases hc : ((q48.1 >>> ((12 - (4 * l4)) &&& 31)) &&& 15) = 0
  · have h := tc_ip hc h
    exact (kp_XR_patternPixel_85 h).trans k48
  · have h := tc_in hc h
    exact (kp_XR_patternPixel_85 h).trans k48
theorem kp_XR_patternPixel_17 {q : Int32 × tc_S} {σ : tc_S} {l1 l3 k0 : Int32} (h : m_XR_patternPixel_17 σ l1 l3 k0 = some q) : tc_gf q.2 34 = tc_gf σ 34 := by
  unfold m_XR_patternPixel_17 at h
  by_cases hc : ((l1 >>> ((12 : Int32) &&& 31)) &&& 1) = 1
  · have h := tc_ip hc h
    exact (kp_XR_patternPixel_36 h).trans rfl
  · have h := tc_in hc h
    exact (kp_XR_patternPixel_36 h).trans rfl
theorem kp_XR_patternPixel_0 {q : Int32 × tc_S} {σ : tc_S} {l1 l2 l3 : Int32} (h : m_XR_patternPixel σ l1 l2 l3 = some q) : tc_gf q.2 34 = tc_gf σ 34 := by
  unfold m_XR_patternPixel at h
  by_cases hc : ((l1 >>> ((11 : Int32) &&& 31)) &&& 1) = 1
  · have h := tc_ip hc h
    exact (kp_XR_patternPixel_17 h).trans rfl
  · have h := tc_in hc h
    exact (kp_XR_patternPixel_17 h).trans rfl
theorem kp_XR_patternPixel {q : Int32 × tc_S} {σ : tc_S} {l1 l2 l3 : Int32} (h : m_XR_patternPixel σ l1 l2 l3 = some q) : tc_gf q.2 34 = tc_gf σ 34 := kp_XR_patternPixel_0 h
theorem kp_XR_spritePixel_60 {q : Int32 × tc_S} {σ : tc_S} {k0 : Int32} (h : m_XR_spritePixel_60 σ k0 = some q) : tc_gf q.2 34 = tc_gf σ 34 := by
  unfold m_XR_spritePixel_60 at h
  cases h
  exact rfl
theorem kp_XR_spritePixel_43 {q : Int32 × tc_S} {σ : tc_S} (h : m_XR_spritePixel_43 σ = some q) : tc_gf q.2 34 = tc_gf σ 34 := by
  unfold m_XR_spritePixel_43 at h
  exact (kp_XR_spritePixel_60 h).trans rfl
theorem kp_XR_spritePixel_0 {q : Int32 × tc_S} {σ : tc_S} {l1 l2 : Int32} (h : m_XR_spritePixel σ l1 l2 = some q) : tc_gf q.2 34 = tc_gf σ 34 := by
  unfold m_XR_spritePixel at h
  obtain ⟨q7, e7, h⟩ := tc_bd_some h
  have k7 := (kp_XR_spriteWord e7).trans rfl
  obtain ⟨q25, e25, h⟩ := tc_bd_some h
  have k25 := (kp_XR_spriteWord e25).trans k7
  by_cases hc : ((l2 + 16) - (q7.1 &&& 63)) < 0
  · have h := tc_ip hc h
    exact (kp_XR_spritePixel_43 h).trans k25
  · have h := tc_in hc h
    by_cases hc : ((l2 + 16) - (q7.1 &&& 63)) ≤ 3
    · have h := tc_ip hc h
      obtain ⟨q51, e51, h⟩ := tc_bd_some h
      have k51 := (kp_XR_spriteWord e51).trans k25
      obtain ⟨q57, e57, h⟩ := tc_bd_some h
      have k57 := (kp_XR_patternPixel e57).trans k51
      exact (kp_XR_spritePixel_60 h).trans k57
    · have h := tc_in hc h
      exact (kp_XR_spritePixel_43 h).trans k25
theorem kp_XR_spritePixel {q : Int32 × tc_S} {σ : tc_S} {l1 l2 : Int32} (h : m_XR_spritePixel σ l1 l2 = some q) : tc_gf q.2 34 = tc_gf σ 34 := kp_XR_spritePixel_0 h
theorem kp_XR_spriteAt_60 {q : Int32 × tc_S} {Z : tc_S → Int32 → Int32 → Int32 → Option (Int32 × tc_S)} (hZ : ∀ {σ : tc_S} {l1 l2 l3 : Int32}, Z σ l1 l2 l3 = some q → tc_gf q.2 34 = tc_gf σ 34) {σ : tc_S} {l1 l3 k0 : Int32} (h : m_XR_spriteAt_60 Z σ l1 l3 k0 = some q) : tc_gf q.2 34 = tc_gf σ 34 := by
  unfold m_XR_spriteAt_60 at h
  exact (hZ h).trans rfl
theorem kp_XR_spriteAt_47 {q : Int32 × tc_S} {Z : tc_S → Int32 → Int32 → Int32 → Option (Int32 × tc_S)} (hZ : ∀ {σ : tc_S} {l1 l2 l3 : Int32}, Z σ l1 l2 l3 = some q → tc_gf q.2 34 = tc_gf σ 34) {σ : tc_S} {l1 l2 l3 l4 k0 : Int32} (h : m_XR_spriteAt_47 Z σ l1 l2 l3 l4 k0 = some q) : tc_gf q.2 34 = tc_gf σ 34 := by
  unfold m_XR_spriteAt_47 at h
  obtain ⟨hz, h⟩ := tc_gb_some h
  by_cases hc : l2 = 0
  · have h := tc_ip hc h
    exact (kp_XR_spriteAt_60 hZ h).trans rfl
  · have h := tc_in hc h
    exact (kp_XR_spriteAt_60 hZ h).trans rfl
theorem kp_XR_spriteAt_42 {q : Int32 × tc_S} {Z : tc_S → Int32 → Int32 → Int32 → Option (Int32 × tc_S)} (hZ : ∀ {σ : tc_S} {l1 l2 l3 : Int32}, Z σ l1 l2 l3 = some q → tc_gf q.2 34 = tc_gf σ 34) {σ : tc_S} {l1 l2 l3 l4 : Int32} (h : m_XR_spriteAt_42 Z σ l1 l2 l3 l4 = some q) : tc_gf q.2 34 = tc_gf σ 34 := by
  unfold m_XR_spriteAt_42 at h
  exact (kp_XR_spriteAt_47 hZ h).trans rfl
theorem kp_XR_spriteAt_46 {q : Int32 × tc_S} {Z : tc_S → Int32 → Int32 → Int32 → Option (Int32 × tc_S)} (hZ : ∀ {σ : tc_S} {l1 l2 l3 : Int32}, Z σ l1 l2 l3 = some q → tc_gf q.2 34 = tc_gf σ 34) {σ : tc_S} {l1 l2 l3 l4 : Int32} (h : m_XR_spriteAt_46 Z σ l1 l2 l3 l4 = some q) : tc_gf q.2 34 = tc_gf σ 34 := by
  unfold m_XR_spriteAt_46 at h
  exact (kp_XR_spriteAt_47 hZ h).trans rfl
theorem kp_XR_spriteAt_4 {q : Int32 × tc_S} : ∀ (n : Nat) {σ : tc_S} {l1 l2 l3 : Int32} (h : m_XR_spriteAt_4 n σ l1 l2 l3 = some q), tc_gf q.2 34 = tc_gf σ 34 := by
  intro n
  induction n with
  | zero =>
    intro σ l1 l2 l3 h
    exact absurd h (by simp [m_XR_spriteAt_4])
  | succ n ih =>
    intro σ l1 l2 l3 h
    unfold m_XR_spriteAt_4 at h
    by_cases hc : (tc_gf σ 36) ≤ l3
    · have h := tc_ip hc h
      cases h
      exact rfl
    · have h := tc_in hc h
      obtain ⟨hi, h⟩ := tc_gd_some h
      obtain ⟨q20, e20, h⟩ := tc_bd_some h
      have k20 := (kp_XR_spritePixel e20).trans rfl
      by_cases hc : (tc_gf q20.2 25) = 0
      · have h := tc_ip hc h
        by_cases hc : q20.1 ≤ 0
        · have h := tc_ip hc h
          exact (kp_XR_spriteAt_46 (fun h => ih h) h).trans k20
        · have h := tc_in hc h
          by_cases hc : l2 ≤ 0
          · have h := tc_ip hc h
            exact (kp_XR_spriteAt_46 (fun h => ih h) h).trans k20
          · have h := tc_in hc h
            exact (kp_XR_spriteAt_42 (fun h => ih h) h).trans k20
      · have h := tc_in hc h
        exact (kp_XR_spriteAt_42 (fun h => ih h) h).trans k20
theorem kp_XR_spriteAt_0 {q : Int32 × tc_S} {σ : tc_S} {l1 : Int32} (h : m_XR_spriteAt σ l1 = some q) : tc_gf q.2 34 = tc_gf σ 34 := by
  unfold m_XR_spriteAt at h
  exact (kp_XR_spriteAt_4 _ h).trans rfl
theorem kp_XR_spriteAt {q : Int32 × tc_S} {σ : tc_S} {l1 : Int32} (h : m_XR_spriteAt σ l1 = some q) : tc_gf q.2 34 = tc_gf σ 34 := kp_XR_spriteAt_0 h
theorem kp_XR_planePixel_0 {q : Int32 × tc_S} {σ : tc_S} {l1 l2 l3 : Int32} (h : m_XR_planePixel σ l1 l2 l3 = some q) : tc_gf q.2 34 = tc_gf σ 34 := by
  unfold m_XR_planePixel at h
  obtain ⟨q20, e20, h⟩ := tc_bd_some h
  have k20 := (kp_XR_vramWord e20).trans rfl
  obtain ⟨q29, e29, h⟩ := tc_bd_some h
  have k29 := (kp_XR_patternPixel e29).trans k20
  cases h
  exact k29
theorem kp_XR_planePixel {q : Int32 × tc_S} {σ : tc_S} {l1 l2 l3 : Int32} (h : m_XR_planePixel σ l1 l2 l3 = some q) : tc_gf q.2 34 = tc_gf σ 34 := kp_XR_planePixel_0 h
theorem kp_XR_plane_50 {q : Int32 × tc_S} {σ : tc_S} {l1 l2 l3 : Int32} (h : m_XR_plane_50 σ l1 l2 l3 = some q) : tc_gf q.2 34 = tc_gf σ 34 := by
  unfold m_XR_plane_50 at h
  obtain ⟨hi, h⟩ := tc_gd_some h
  obtain ⟨q66, e66, h⟩ := tc_bd_some h
  have k66 := (kp_XR_vramWord e66).trans rfl
  obtain ⟨hi, h⟩ := tc_gd_some h
  obtain ⟨q94, e94, h⟩ := tc_bd_some h
  have k94 := (kp_XR_planePixel e94).trans k66
  cases h
  exact k94
theorem kp_XR_plane_19 {q : Int32 × tc_S} {σ : tc_S} {l1 l2 k0 : Int32} (h : m_XR_plane_19 σ l1 l2 k0 = some q) : tc_gf q.2 34 = tc_gf σ 34 := by
  unfold m_XR_plane_19 at h
  by_cases hc : l1 = 0
  · have h := tc_ip hc h
    obtain ⟨hi, h⟩ := tc_gd_some h
    by_cases hc : ((tc_ga σ 5 3) &&& 7) ≤ (l2 / 4)
    · have h := tc_ip hc h
      exact (kp_XR_plane_50 h).trans rfl
    · have h := tc_in hc h
      obtain ⟨q46, e46, h⟩ := tc_bd_some h
      have k46 := (kp_XR_planePixel e46).trans rfl
      cases h
      exact k46
  · have h := tc_in hc h
    exact (kp_XR_plane_50 h).trans rfl
theorem kp_XR_plane_0 {q : Int32 × tc_S} {σ : tc_S} {l1 l2 : Int32} (h : m_XR_plane σ l1 l2 = some q) : tc_gf q.2 34 = tc_gf σ 34 := by
  unfold m_XR_plane at h
  by_cases hc : l1 = 0
  · have h := tc_ip hc h
    obtain ⟨hi, h⟩ := tc_gd_some h
    exact (kp_XR_plane_19 h).trans rfl
  · have h := tc_in hc h
    obtain ⟨hi, h⟩ := tc_gd_some h
    exact (kp_XR_plane_19 h).trans rfl
theorem kp_XR_plane {q : Int32 × tc_S} {σ : tc_S} {l1 l2 : Int32} (h : m_XR_plane σ l1 l2 = some q) : tc_gf q.2 34 = tc_gf σ 34 := kp_XR_plane_0 h
theorem kp_XR_takeSprites_144 {q : tc_S} {σ : tc_S} (h : m_XR_takeSprites_144 σ = some q) : tc_gf q 34 = tc_gf σ 34 := by
  unfold m_XR_takeSprites_144 at h
  cases h
  exact rfl
theorem kp_XR_takeSprites_137 {q : tc_S} {Z : tc_S → Int32 → Int32 → Int32 → Int32 → Option (tc_S)} (hZ : ∀ {σ : tc_S} {l1 l2 l3 l4 : Int32}, Z σ l1 l2 l3 l4 = some q → tc_gf q 34 = tc_gf σ 34) {σ : tc_S} {l1 l2 l4 k0 : Int32} (h : m_XR_takeSprites_137 Z σ l1 l2 l4 k0 = some q) : tc_gf q 34 = tc_gf σ 34 := by
  unfold m_XR_takeSprites_137 at h
  exact (hZ h).trans rfl
theorem kp_XR_takeSprites_136 {q : tc_S} {Z : tc_S → Int32 → Int32 → Int32 → Int32 → Option (tc_S)} (hZ : ∀ {σ : tc_S} {l1 l2 l3 l4 : Int32}, Z σ l1 l2 l3 l4 = some q → tc_gf q 34 = tc_gf σ 34) {σ : tc_S} {l1 l2 l4 : Int32} (h : m_XR_takeSprites_136 Z σ l1 l2 l4 = some q) : tc_gf q 34 = tc_gf σ 34 := by
  unfold m_XR_takeSprites_136 at h
  exact (kp_XR_takeSprites_137 hZ h).trans rfl
theorem kp_XR_takeSprites_114 {q : tc_S} {Z : tc_S → Int32 → Int32 → Int32 → Int32 → Option (tc_S)} (hZ : ∀ {σ : tc_S} {l1 l2 l3 l4 : Int32}, Z σ l1 l2 l3 l4 = some q → tc_gf q 34 = tc_gf σ 34) {σ : tc_S} {l1 l2 l3 l4 : Int32} (h : m_XR_takeSprites_114 Z σ l1 l2 l3 l4 = some q) : tc_gf q 34 = tc_gf σ 34 := by
  unfold m_XR_takeSprites_114 at h
  obtain ⟨q117, e117, h⟩ := tc_bd_some h
  have k117 := (kp_XR_spriteWord e117).trans rfl
  by_cases hc : l3 = 0
  · have h := tc_ip hc h
    exact (kp_XR_takeSprites_136 hZ h).trans k117
  · have h := tc_in hc h
    by_cases hc : (q117.1 &&& 7) = 0
    · have h := tc_ip hc h
      exact (kp_XR_takeSprites_136 hZ h).trans k117
    · have h := tc_in hc h
      exact (kp_XR_takeSprites_137 hZ h).trans k117
theorem kp_XR_takeSprites_91 {q : tc_S} {Z : tc_S → Int32 → Int32 → Int32 → Int32 → Option (tc_S)} (hZ : ∀ {σ : tc_S} {l1 l2 l3 l4 : Int32}, Z σ l1 l2 l3 l4 = some q → tc_gf q 34 = tc_gf σ 34) {σ : tc_S} {l1 l2 l3 l4 : Int32} (h : m_XR_takeSprites_91 Z σ l1 l2 l3 l4 = some q) : tc_gf q 34 = tc_gf σ 34 := by
  unfold m_XR_takeSprites_91 at h
  obtain ⟨hi, h⟩ := tc_gd_some h
  exact (kp_XR_takeSprites_114 hZ h).trans rfl
theorem kp_XR_takeSprites_14 {q : tc_S} : ∀ (n : Nat) {σ : tc_S} {l1 l2 l3 l4 : Int32} (h : m_XR_takeSprites_14 n σ l1 l2 l3 l4 = some q), tc_gf q 34 = tc_gf σ 34 := by
  intro n
  induction n with
  | zero =>
    intro σ l1 l2 l3 l4 h
    exact absurd h (by simp [m_XR_takeSprites_14])
  | succ n ih =>
    intro σ l1 l2 l3 l4 h
    unfold m_XR_takeSprites_14 at h
    by_cases hc : 8 ≤ l4
    · have h := tc_ip hc h
      exact (kp_XR_takeSprites_144 h).trans rfl
    · have h := tc_in hc h
      by_cases hc : l3 = 0
      · have h := tc_ip hc h
        exact (kp_XR_takeSprites_144 h).trans rfl
      · have h := tc_in hc h
        obtain ⟨q35, e35, h⟩ := tc_bd_some h
        have k35 := (kp_XR_spriteWord e35).trans rfl
        by_cases hc : (((tc_gf σ 27) + 16) - (q35.1 &&& 63)) < 0
        · have h := tc_ip hc h
          exact (kp_XR_takeSprites_114 (fun h => ih h) h).trans k35
        · have h := tc_in hc h
          by_cases hc : 4 ≤ (((tc_gf σ 27) + 16) - (q35.1 &&& 63))
          · have h := tc_ip hc h
            exact (kp_XR_takeSprites_114 (fun h => ih h) h).trans k35
          · have h := tc_in hc h
            by_cases hc : l1 = 3
            · have h := tc_ip hc h
              exact (kp_XR_takeSprites_114 (fun h => ih h) h).trans k35
            · have h := tc_in hc h
              obtain ⟨q73, e73, h⟩ := tc_bd_some h
              have k73 := (kp_XR_spriteWord e73).trans k35
              by_cases hc : (q73.1 &&& 63) = 0
              · have h := tc_ip hc h
                by_cases hc : l1 ≤ 0
                · have h := tc_ip hc h
                  exact (kp_XR_takeSprites_91 (fun h => ih h) h).trans k73
                · have h := tc_in hc h
                  exact (kp_XR_takeSprites_114 (fun h => ih h) h).trans k73
              · have h := tc_in hc h
                exact (kp_XR_takeSprites_91 (fun h => ih h) h).trans k73
theorem kp_XR_takeSprites_0 {q : tc_S} {σ : tc_S} (h : m_XR_takeSprites σ = some q) : tc_gf q 34 = tc_gf σ 34 := by
  unfold m_XR_takeSprites at h
  exact (kp_XR_takeSprites_14 _ h).trans rfl
theorem kp_XR_takeSprites {q : tc_S} {σ : tc_S} (h : m_XR_takeSprites σ = some q) : tc_gf q 34 = tc_gf σ 34 := kp_XR_takeSprites_0 h
theorem kp_XR_draw_147 {q : tc_S} {Z : tc_S → Int32 → Int32 → Option (tc_S)} (hZ : ∀ {σ : tc_S} {l1 l2 : Int32}, Z σ l1 l2 = some q → tc_gf q 34 = tc_gf σ 34) {σ : tc_S} {l1 l2 l3 : Int32} (h : m_XR_draw_147 Z σ l1 l2 l3 = some q) : tc_gf q 34 = tc_gf σ 34 := by
  unfold m_XR_draw_147 at h
  obtain ⟨hi, h⟩ := tc_gd_some h
  exact (hZ h).trans rfl
theorem kp_XR_draw_146 {q : tc_S} {Z : tc_S → Int32 → Int32 → Option (tc_S)} (hZ : ∀ {σ : tc_S} {l1 l2 : Int32}, Z σ l1 l2 = some q → tc_gf q 34 = tc_gf σ 34) {σ : tc_S} {l1 l2 k0 : Int32} (h : m_XR_draw_146 Z σ l1 l2 k0 = some q) : tc_gf q 34 = tc_gf σ 34 := by
  unfold m_XR_draw_146 at h
  exact (kp_XR_draw_147 hZ h).trans rfl
theorem kp_XR_draw_130 {q : tc_S} {Z : tc_S → Int32 → Int32 → Option (tc_S)} (hZ : ∀ {σ : tc_S} {l1 l2 : Int32}, Z σ l1 l2 = some q → tc_gf q 34 = tc_gf σ 34) {σ : tc_S} {l1 l2 l3 k0 : Int32} (h : m_XR_draw_130 Z σ l1 l2 l3 k0 = some q) : tc_gf q 34 = tc_gf σ 34 := by
  unfold m_XR_draw_130 at h
  by_cases hc : k0 ≤ 0
  · have h := tc_ip hc h
    exact (kp_XR_draw_146 hZ h).trans rfl
  · have h := tc_in hc h
    exact (kp_XR_draw_146 hZ h).trans rfl
theorem kp_XR_draw_28 {q : tc_S} : ∀ (n : Nat) {σ : tc_S} {l1 l2 : Int32} (h : m_XR_draw_28 n σ l1 l2 = some q), tc_gf q 34 = tc_gf σ 34 := by
  intro n
  induction n with
  | zero =>
    intro σ l1 l2 h
    exact absurd h (by simp [m_XR_draw_28])
  | succ n ih =>
    intro σ l1 l2 h
    unfold m_XR_draw_28 at h
    by_cases hc : 16 ≤ l2
    · have h := tc_ip hc h
      cases h
      exact rfl
    · have h := tc_in hc h
      obtain ⟨hi, h⟩ := tc_gd_some h
      by_cases hc : l1 = 0
      · have h := tc_ip hc h
        exact (kp_XR_draw_147 (fun h => ih h) h).trans rfl
      · have h := tc_in hc h
        obtain ⟨q51, e51, h⟩ := tc_bd_some h
        have k51 := (kp_XR_spriteAt e51).trans rfl
        obtain ⟨q59, e59, h⟩ := tc_bd_some h
        have k59 := (kp_XR_plane e59).trans k51
        obtain ⟨q67, e67, h⟩ := tc_bd_some h
        have k67 := (kp_XR_plane e67).trans k59
        by_cases hc : q51.1 ≤ 15
        · have h := tc_ip hc h
          by_cases hc : q59.1 ≤ 15
          · have h := tc_ip hc h
            by_cases hc : q67.1 ≤ 15
            · have h := tc_ip hc h
              by_cases hc : q51.1 ≤ 0
              · have h := tc_ip hc h
                by_cases hc : q59.1 ≤ 0
                · have h := tc_ip hc h
                  exact (kp_XR_draw_130 (fun h => ih h) h).trans k67
                · have h := tc_in hc h
                  exact (kp_XR_draw_130 (fun h => ih h) h).trans k67
              · have h := tc_in hc h
                exact (kp_XR_draw_130 (fun h => ih h) h).trans k67
            · have h := tc_in hc h
              exact (kp_XR_draw_130 (fun h => ih h) h).trans k67
          · have h := tc_in hc h
            exact (kp_XR_draw_130 (fun h => ih h) h).trans k67
        · have h := tc_in hc h
          exact (kp_XR_draw_130 (fun h => ih h) h).trans k67
theorem kp_XR_draw_26 {q : tc_S} {σ : tc_S} {l1 : Int32} (h : m_XR_draw_26 σ l1 = some q) : tc_gf q 34 = tc_gf σ 34 := by
  unfold m_XR_draw_26 at h
  exact (kp_XR_draw_28 _ h).trans rfl
theorem kp_XR_draw_17 {q : tc_S} {σ : tc_S} {k0 : Int32} (h : m_XR_draw_17 σ k0 = some q) : tc_gf q 34 = tc_gf σ 34 := by
  unfold m_XR_draw_17 at h
  by_cases hc : k0 = 0
  · have h := tc_ip hc h
    exact (kp_XR_draw_26 h).trans rfl
  · have h := tc_in hc h
    obtain ⟨q23, e23, h⟩ := tc_bd_some h
    have k23 := (kp_XR_takeSprites e23).trans rfl
    exact (kp_XR_draw_26 h).trans k23
theorem kp_XR_draw_0 {q : tc_S} {σ : tc_S} (h : m_XR_draw σ = some q) : tc_gf q 34 = tc_gf σ 34 := by
  unfold m_XR_draw at h
  obtain ⟨hi, h⟩ := tc_gd_some h
  by_cases hc : ((tc_ga σ 5 1) &&& 64) = 0
  · have h := tc_ip hc h
    exact (kp_XR_draw_17 h).trans rfl
  · have h := tc_in hc h
    exact (kp_XR_draw_17 h).trans rfl
theorem kp_XR_draw {q : tc_S} {σ : tc_S} (h : m_XR_draw σ = some q) : tc_gf q 34 = tc_gf σ 34 := kp_XR_draw_0 h
theorem kp_XR_beginLine_125 {q : tc_S} {σ : tc_S} (h : m_XR_beginLine_125 σ = some q) : tc_gf q 34 = tc_gf σ 34 := by
  unfold m_XR_beginLine_125 at h
  cases h
  exact rfl
theorem kp_XR_beginLine_118 {q : tc_S} {σ : tc_S} {k0 : Int32} (h : m_XR_beginLine_118 σ k0 = some q) : tc_gf q 34 = tc_gf σ 34 := by
  unfold m_XR_beginLine_118 at h
  obtain ⟨hz, h⟩ := tc_gb_some h
  obtain ⟨q122, e122, h⟩ := tc_bd_some h
  have k122 := (kp_XR_tellSecond e122).trans rfl
  exact (kp_XR_beginLine_125 h).trans k122
theorem kp_XR_beginLine_113 {q : tc_S} {σ : tc_S} (h : m_XR_beginLine_113 σ = some q) : tc_gf q 34 = tc_gf σ 34 := by
  unfold m_XR_beginLine_113 at h
  exact (kp_XR_beginLine_118 h).trans rfl
theorem kp_XR_beginLine_72 {q : tc_S} {σ : tc_S} (h : m_XR_beginLine_72 σ = some q) : tc_gf q 34 = tc_gf σ 34 := by
  unfold m_XR_beginLine_72 at h
  cases h
  exact rfl
theorem kp_XR_beginLine_56 {q : tc_S} {σ : tc_S} {k0 : Int32} (h : m_XR_beginLine_56 σ k0 = some q) : tc_gf q 34 = tc_gf σ 34 := by
  unfold m_XR_beginLine_56 at h
  obtain ⟨hz, h⟩ := tc_gb_some h
  exact (kp_XR_beginLine_72 h).trans rfl
theorem kp_XR_beginLine_51 {q : tc_S} {σ : tc_S} (h : m_XR_beginLine_51 σ = some q) : tc_gf q 34 = tc_gf σ 34 := by
  unfold m_XR_beginLine_51 at h
  exact (kp_XR_beginLine_56 h).trans rfl
theorem kp_XR_beginLine_0 {q : tc_S} {σ : tc_S} (h : m_XR_beginLine σ = some q) : tc_gf q 34 = tc_gf σ 34 := by
  unfold m_XR_beginLine at h
  by_cases hc : 8 ≤ (tc_gf σ 27)
  · have h := tc_ip hc h
    obtain ⟨hi, h⟩ := tc_gd_some h
    by_cases hc : (tc_gf (tc_sf σ 29 (tc_ga σ 5 8)) 27) = 8
    · have h := tc_ip hc h
      by_cases hc : (tc_gf (tc_sf σ 29 (tc_ga σ 5 8)) 31) = 0
      · have h := tc_ip hc h
        obtain ⟨hi, h⟩ := tc_gd_some h
        by_cases hc : ((tc_ga (tc_sf σ 29 (tc_ga σ 5 8)) 5 1) &&& 32) = 0
        · have h := tc_ip hc h
          exact (kp_XR_beginLine_118 h).trans rfl
        · have h := tc_in hc h
          exact (kp_XR_beginLine_113 h).trans rfl
      · have h := tc_in hc h
        exact (kp_XR_beginLine_113 h).trans rfl
    · have h := tc_in hc h
      exact (kp_XR_beginLine_125 h).trans rfl
  · have h := tc_in hc h
    obtain ⟨q10, e10, h⟩ := tc_bd_some h
    have k10 := (kp_XR_draw e10).trans rfl
    by_cases hc : (tc_gf q10 29) = 0
    · have h := tc_ip hc h
      obtain ⟨hi, h⟩ := tc_gd_some h
      by_cases hc : (tc_gf (tc_sf q10 29 (tc_ga q10 5 8)) 30) = 0
      · have h := tc_ip hc h
        obtain ⟨hi, h⟩ := tc_gd_some h
        by_cases hc : ((tc_ga (tc_sf q10 29 (tc_ga q10 5 8)) 5 0) &&& 16) = 0
        · have h := tc_ip hc h
          exact (kp_XR_beginLine_56 h).trans k10
        · have h := tc_in hc h
          exact (kp_XR_beginLine_51 h).trans k10
      · have h := tc_in hc h
        exact (kp_XR_beginLine_51 h).trans k10
    · have h := tc_in hc h
      exact (kp_XR_beginLine_72 h).trans k10
theorem kp_XR_beginLine {q : tc_S} {σ : tc_S} (h : m_XR_beginLine σ = some q) : tc_gf q 34 = tc_gf σ 34 := kp_XR_beginLine_0 h
theorem kp_XR_goOn_10 {q : tc_S} : ∀ (n : Nat) {σ : tc_S} (h : m_XR_goOn_10 n σ = some q), tc_gf q 34 = tc_gf σ 34 := by
  intro n
  induction n with
  | zero =>
    intro σ  h
    exact absurd h (by simp [m_XR_goOn_10])
  | succ n ih =>
    intro σ  h
    unfold m_XR_goOn_10 at h
    by_cases hc : (tc_gf σ 28) < 64
    · have h := tc_ip hc h
      cases h
      exact rfl
    · have h := tc_in hc h
      obtain ⟨q44, e44, h⟩ := tc_bd_some h
      have k44 := (kp_XR_beginLine e44).trans rfl
      exact (ih h).trans k44
theorem kp_XR_goOn_0 {q : tc_S} {σ : tc_S} {l1 : Int32} (h : m_XR_goOn σ l1 = some q) : tc_gf q 34 = tc_gf σ 34 := by
  unfold m_XR_goOn at h
  exact (kp_XR_goOn_10 _ h).trans rfl
theorem kp_XR_goOn {q : tc_S} {σ : tc_S} {l1 : Int32} (h : m_XR_goOn σ l1 = some q) : tc_gf q 34 = tc_gf σ 34 := kp_XR_goOn_0 h
