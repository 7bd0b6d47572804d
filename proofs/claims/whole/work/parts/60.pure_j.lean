theorem tz_r1 {x : Nat} (hx : x < 65536) : (nI x &&& 61696 = 28672) ↔ (x / 4096 = 7 ∧ x / 256 % 2 = 0) := by
  rw [tz_61696 hx, show (28672 : Int32) = nI 28672 from rfl, nI_eq (by omega) (by decide)]; omega
theorem tz_r2 {x : Nat} (hx : x < 65536) : (nI x &&& 61944 = 12288) ↔ (x / 4096 = 3 ∧ x / 256 % 2 = 0 ∧ x % 256 / 8 = 0) := by
  rw [tz_61944 hx, show (12288 : Int32) = nI 12288 from rfl, nI_eq (by omega) (by decide)]; omega
theorem tz_r3 {x : Nat} (hx : x < 65536) : (nI x &&& 61944 = 12344) ↔ (x / 4096 = 3 ∧ x / 256 % 2 = 0 ∧ x % 256 / 8 = 7) := by
  rw [tz_61944 hx, show (12344 : Int32) = nI 12344 from rfl, nI_eq (by omega) (by decide)]; omega
theorem tz_r7 {x : Nat} (hx : x < 65536) : (nI x &&& 61944 = 53312) ↔ (x / 4096 = 13 ∧ x / 256 % 2 = 0 ∧ x % 256 / 8 = 8) := by
  rw [tz_61944 hx, show (53312 : Int32) = nI 53312 from rfl, nI_eq (by omega) (by decide)]; omega
theorem tz_r8 {x : Nat} (hx : x < 65536) : (nI x &&& 61944 = 45120) ↔ (x / 4096 = 11 ∧ x / 256 % 2 = 0 ∧ x % 256 / 8 = 8) := by
  rw [tz_61944 hx, show (45120 : Int32) = nI 45120 from rfl, nI_eq (by omega) (by decide)]; omega
theorem tz_a1 {x : Nat} (hx : x < 65536) : (nI x &&& 504 = 64) ↔ (x / 256 % 2 = 0 ∧ x % 256 / 8 = 8) := by
  rw [tz_504 hx, show (64 : Int32) = nI 64 from rfl, nI_eq (by omega) (by decide)]; omega
theorem tz_a4 {x : Nat} (hx : x < 65536) : (nI x &&& 65528 = 20064) ↔ (20064 ≤ x ∧ x < 20072) := by
  rw [tz_65528 hx, show (20064 : Int32) = nI 20064 from rfl, nI_eq (by omega) (by decide)]; omega
theorem tz_n {x a : Nat} {w : Int32} (hx : x < 65536) (hw : w = nI a) (ha : a < 65536) : (nI x = w) ↔ x = a := by subst hw; exact nI_eq (by omega) (by omega)
theorem tz_l {x a : Nat} {w : Int32} (hx : x < 65536) (hw : w = nI a) (ha : a < 65536) : (nI x < w) ↔ x < a := by subst hw; exact nI_ltI (by omega) (by omega)
theorem tz_g {x a : Nat} {w : Int32} (hx : x < 65536) (hw : w = nI a) (ha : a < 65536) : (w ≤ nI x) ↔ a ≤ x := by subst hw; exact nI_leI (by omega) (by omega)
theorem tz_12 {x : Nat} (hx : x < 65536) : nI x >>> ((12 : Int32) &&& 31) = nI (x / 4096) := tc_shr (by omega) _ 12 (by decide)
/-- the reference's last moves, where the first nibble isn't 3 -/
theorem tc_rest {τ : tc_S} {x : Nat} (hx : x < 65536) (c3 : ¬ x / 4096 = 3) (l2 l3 l4 : Int32) : m_XR_move_183 τ (nI x) l2 l3 l4 = m_XR_move_227 τ (nI x) l2 l3 l4 := by
  unfold m_XR_move_183
  rw [tc_iteN (tz_l hx (show (12736 : Int32) = nI 12736 from rfl) (by decide)), tc_iteN (tz_g hx (show (12744 : Int32) = nI 12744 from rfl) (by decide))]
  by_cases d5 : x < 12736
  · rw [if_pos d5]
  · rw [if_neg d5, if_pos (by omega)]
theorem tc_move_o {τ : tc_S} {x : Nat} (hx : x < 65536) (c3 : ¬ x / 4096 = 3) (c7 : ¬ (x / 4096 = 7 ∧ x / 256 % 2 = 0)) : m_XR_move τ (nI x) = m_XR_move_227 τ (nI x) ((nI x >>> ((9 : Int32) &&& 31)) &&& 7) (nI x &&& 7) (nI x &&& 61944) := by
  unfold m_XR_move
  rw [if_neg (fun k => c7 ((tz_r1 hx).mp k)), if_neg (fun k => c3 ((tz_r2 hx).mp k).1), if_neg (fun k => c3 ((tz_r3 hx).mp k).1), tc_rest hx c3]
theorem tc_rs_none {τ : tc_S} {x : Nat} (hx : x < 65536) (c3 : ¬ x / 4096 = 3) (c7 : ¬ (x / 4096 = 7 ∧ x / 256 % 2 = 0)) (c13 : ¬ (x / 4096 = 13 ∧ x / 256 % 2 = 0 ∧ x % 256 / 8 = 8)) (c11 : ¬ (x / 4096 = 11 ∧ x / 256 % 2 = 0 ∧ x % 256 / 8 = 8)) : tc_rs τ (nI x) = m_XR_control2 τ (nI x) := by
  unfold tc_rs
  rw [tc_move_o hx c3 c7]
  unfold m_XR_move_227
  rw [if_neg (fun k => by have := (tz_n hx (show (12796 : Int32) = nI 12796 from rfl) (by decide)).mp k; omega), if_neg (fun k => c13 ((tz_r7 hx).mp k)), if_neg (fun k => c11 ((tz_r8 hx).mp k)), tc_bs, if_neg (show ¬ (0 : Int32) ≤ -1 by decide)]
theorem tc_ctl_o {τ : tc_S} {x : Nat} (hx : x < 65536) (c4 : ¬ x / 4096 = 4) : m_XR_control2 τ (nI x) = m_XR_control2_118 τ (nI x) := by
  have o : ∀ (a : Nat) {w : Int32}, w = nI a → a < 65536 → a / 4096 = 4 → ¬ nI x = w := fun a w hw ha h4 k => by
    have := (tz_n hx hw ha).mp k
    omega
  unfold m_XR_control2
  rw [if_neg (o 20081 (show (20081 : Int32) = nI 20081 from rfl) (by decide) (by decide)), if_neg (o 20083 (show (20083 : Int32) = nI 20083 from rfl) (by decide) (by decide)), if_neg (o 20082 (show (20082 : Int32) = nI 20082 from rfl) (by decide) (by decide)), tc_iteN (tz_l hx (show (20064 : Int32) = nI 20064 from rfl) (by decide)), tc_iteN (tz_g hx (show (20072 : Int32) = nI 20072 from rfl) (by decide))]
  by_cases t4 : x < 20064
  · rw [if_pos t4]
  · rw [if_neg t4, if_pos (by omega)]
theorem tc_ctl_none {τ : tc_S} {x : Nat} (hx : x < 65536) (c4 : ¬ x / 4096 = 4) (c6 : ¬ x / 4096 = 6) : m_XR_control2 τ (nI x) = some (-1, τ) := by
  rw [tc_ctl_o hx c4]
  unfold m_XR_control2_118 m_XR_control2_136
  rw [tz_12 hx, if_neg (fun k => c6 ((tz_n (by omega) (show (6 : Int32) = nI 6 from rfl) (by decide)).mp k))]
theorem tc_dec4 {b : Nat} {σ τ : tc_S} (h : tc_T b σ τ) {x : Nat} (hx : x < 65536) (c4 : x / 4096 = 4) : tc_M (tc_QD b σ τ) (m_XM_controlMachine σ (nI x)) (m_XR_control2 τ (nI x)) := by
  have e1 := tz_n hx (show (20081 : Int32) = nI 20081 from rfl) (by decide)
  have e2 := tz_n hx (show (20082 : Int32) = nI 20082 from rfl) (by decide)
  have e3 := tz_n hx (show (20083 : Int32) = nI 20083 from rfl) (by decide)
  have e4 := tz_l hx (show (20064 : Int32) = nI 20064 from rfl) (by decide)
  have e5 := tz_g hx (show (20072 : Int32) = nI 20072 from rfl) (by decide)
  have a4 := tz_a4 hx
  unfold m_XM_controlMachine m_XR_control2
  by_cases s1 : x = 20081
  · rw [if_neg (fun k => by have := a4.mp k; omega), if_pos (e1.mpr s1), if_pos (e1.mpr s1)]
    exact tc_M_some (tc_QD_l 4 rfl (by decide) (by decide) h)
  by_cases s2 : x = 20082
  · rw [if_neg (fun k => by have := a4.mp k; omega), if_neg (fun k => s1 (e1.mp k)), if_pos (e2.mpr s2), if_neg (fun k => s1 (e1.mp k)), if_neg (fun k => by have := e3.mp k; omega), if_pos (e2.mpr s2)]
    exact tc_knownD (tc_k11 h)
  by_cases s3 : x = 20083
  · rw [if_neg (fun k => by have := a4.mp k; omega), if_neg (fun k => s1 (e1.mp k)), if_neg (fun k => s2 (e2.mp k)), if_pos (e3.mpr s3), if_neg (fun k => s1 (e1.mp k)), if_pos (e3.mpr s3)]
    exact tc_knownD (tc_k12 h)
  rw [if_neg (fun k => s1 (e1.mp k)), if_neg (fun k => s2 (e2.mp k)), if_neg (fun k => s3 (e3.mp k)), if_neg (fun k => s1 (e1.mp k)), if_neg (fun k => s3 (e3.mp k)), if_neg (fun k => s2 (e2.mp k))]
  by_cases s4 : 20064 ≤ x ∧ x < 20072
  · rw [if_pos (a4.mpr s4), if_neg (fun k => by have := e4.mp k; omega), if_neg (fun k => by have := e5.mp k; omega)]
    exact tc_knownD (tc_k9 h _)
  · have u : m_XR_control2_118 τ (nI x) = some (-1, τ) := by
      unfold m_XR_control2_118 m_XR_control2_136
      rw [tz_12 hx, if_neg (fun k => by have := (tz_n (by omega) (show (6 : Int32) = nI 6 from rfl) (by decide)).mp k; omega)]
    rw [if_neg (fun k => s4 (a4.mp k)), u]
    by_cases t1 : x < 20064
    · rw [if_pos (e4.mpr t1)]; exact tc_M_some (Or.inr ⟨rfl, rfl, rfl, rfl⟩)
    · rw [if_neg (fun k => t1 (e4.mp k)), if_pos (e5.mpr (by omega))]; exact tc_M_some (Or.inr ⟨rfl, rfl, rfl, rfl⟩)
theorem tc_unk (b : Nat) (σ τ : tc_S) : tc_M (tc_QD b σ τ) (some ((0 : Int32), σ)) (some ((-1 : Int32), τ)) := tc_M_some (Or.inr ⟨rfl, rfl, rfl, rfl⟩)
theorem tc_dec {b : Nat} {σ τ : tc_S} (h : tc_T b σ τ) {x : Nat} (hx : x < 65536) : tc_M (tc_QD b σ τ) (tc_sw σ (nI x)) (tc_rs τ (nI x)) := by
  have k : ∀ (a : Nat) {w : Int32}, w = nI a → a < 65536 → ((nI (x / 4096) = w) ↔ x / 4096 = a) := fun a w hw ha => tz_n (by omega) hw ha
  have k3 := k 3 (show (3 : Int32) = nI 3 from rfl) (by decide)
  have k4 := k 4 (show (4 : Int32) = nI 4 from rfl) (by decide)
  have k6 := k 6 (show (6 : Int32) = nI 6 from rfl) (by decide)
  have k7 := k 7 (show (7 : Int32) = nI 7 from rfl) (by decide)
  have k11 := k 11 (show (11 : Int32) = nI 11 from rfl) (by decide)
  have k13 := k 13 (show (13 : Int32) = nI 13 from rfl) (by decide)
  unfold tc_sw
  rw [tz_12 hx, tc_iteN k3, tc_iteN k4, tc_iteN k6, tc_iteN k7, tc_iteN k11, tc_iteN k13]
  by_cases c3 : x / 4096 = 3
  · rw [if_pos c3]; exact tc_move3 h hx c3
  rw [if_neg c3]
  by_cases c4 : x / 4096 = 4
  · rw [if_pos c4, tc_rs_none hx c3 (by omega) (by omega) (by omega)]
    exact tc_dec4 h hx c4
  rw [if_neg c4]
  by_cases c6 : x / 4096 = 6
  · rw [if_pos c6, tc_rs_none hx c3 (by omega) (by omega) (by omega), tc_ctl_o hx c4]
    unfold m_XR_control2_118 m_XR_control2_136
    rw [tz_12 hx, if_pos (k6.mpr c6)]
    obtain ⟨a, c, e1, e2, hq⟩ := tc_k8 h (nI x)
    exact ⟨a, c, e1, by rw [e2, tc_bs], hq⟩
  rw [if_neg c6]
  by_cases c7 : x / 4096 = 7
  · rw [if_pos c7]
    unfold m_XM_moveQuick
    rw [tc_iteN (tb_bit0 (x := x) 8 (by decide) (show (256 : Int32) = nI (2 ^ 8) from rfl))]
    by_cases d : x / 2 ^ 8 % 2 = 0
    · rw [if_pos d]
      unfold tc_rs m_XR_move
      rw [if_pos ((tz_r1 hx).mpr ⟨c7, d⟩)]
      exact tc_known (tc_k5 h _ _)
    · have d : ¬ x / 256 % 2 = 0 := d
      rw [if_neg d, tc_rs_none hx c3 (by omega) (by omega) (by omega), tc_ctl_none hx c4 c6]
      exact tc_unk b σ τ
  rw [if_neg c7]
  by_cases c11 : x / 4096 = 11
  · rw [if_pos c11]
    unfold m_XM_compare
    rw [tc_iteN (tz_a1 hx)]
    by_cases d : x / 256 % 2 = 0 ∧ x % 256 / 8 = 8
    · rw [if_pos d]
      unfold tc_rs
      rw [tc_move_o hx c3 (by omega)]
      unfold m_XR_move_227
      have z1 : ¬ nI x = 12796 := fun k => by have := (tz_n hx (show (12796 : Int32) = nI 12796 from rfl) (by decide)).mp k; omega
      have z2 : ¬ nI x &&& 61944 = 53312 := fun k => by have := (tz_r7 hx).mp k; omega
      rw [if_neg z1, if_neg z2, if_pos ((tz_r8 hx).mpr ⟨c11, d⟩)]
      exact tc_known (tc_k6 h _ _)
    · rw [if_neg d, tc_rs_none hx c3 (by omega) (by omega) (fun k => d k.2), tc_ctl_none hx c4 c6]
      exact tc_unk b σ τ
  rw [if_neg c11]
  by_cases c13 : x / 4096 = 13
  · rw [if_pos c13]
    unfold m_XM_add
    rw [tc_iteN (tz_a1 hx)]
    by_cases d : x / 256 % 2 = 0 ∧ x % 256 / 8 = 8
    · rw [if_pos d]
      unfold tc_rs
      rw [tc_move_o hx c3 (by omega)]
      unfold m_XR_move_227
      have z1 : ¬ nI x = 12796 := fun k => by have := (tz_n hx (show (12796 : Int32) = nI 12796 from rfl) (by decide)).mp k; omega
      rw [if_neg z1, if_pos ((tz_r7 hx).mpr ⟨c13, d⟩)]
      exact tc_known (tc_k7 h _ _)
    · rw [if_neg d, tc_rs_none hx c3 (by omega) (fun k => d k.2) (by omega), tc_ctl_none hx c4 c6]
      exact tc_unk b σ τ
  rw [if_neg c13, tc_rs_none hx c3 (by omega) (by omega) (by omega), tc_ctl_none hx c4 c6]
  exact tc_unk b σ τ
/-! exceptions -/
theorem tc_raise {b : Nat} {σ τ : tc_S} (h : tc_T b σ τ) {k : Nat} (hk : 4 * k + 2 < 65536) : tc_M (tc_T b) (m_XM_raise σ (nI k)) (m_XR_exception τ (nI k)) := by
  unfold m_XM_raise m_XR_exception
  rw [tc_fw_c, tc_fw_r]
  simp only [tc_bs]
  obtain ⟨ef, hf⟩ := tc_fw_T h
  rw [ef, tc_T_g h 0 (by decide)]
  obtain ⟨n1, hn1, en1⟩ := tc_B_16 (tc_gf τ 0 - 6)
  rw [en1]
  refine tc_M_bind (tc_write h hn1 hf) (fun a c h1 => ?_)
  rw [tc_T_g h1 0 (by decide)]
  obtain ⟨n2, hn2, en2⟩ := tc_B_16 (tc_gf c 0 - 4)
  rw [en2]
  refine tc_M_bind (tc_write h1 hn2 (tc_B_0 (by decide))) (fun a c h2 => ?_)
  rw [tc_T_g h2 0 (by decide), tc_T_g h2 1 (by decide)]
  obtain ⟨n3, hn3, en3⟩ := tc_B_16 (tc_gf c 0 - 2)
  rw [en3]
  refine tc_M_bind (tc_write h2 hn3 (tc_T_B h2 1 (by decide) (by decide) (by decide))) (fun a c h3 => ?_)
  rw [tc_T_g h3 0 (by decide)]
  have h4 := tc_T_sf h3 0 (v := (tc_gf c 0 - 6) &&& 65535) (by decide) (by decide) (by decide) (by decide) (tc_B_16 _)
  have e : (4 * nI k) + 2 = nI (4 * k + 2) := by
    rw [show 4 * nI k = nI (4 * k) from pk_mul 4 k]; exact nI_add _ 2
  obtain ⟨v, hv, e1, e2⟩ := tc_q h4 hk
  rw [e, e1, e2]
  simp only [tc_bs]
  exact tc_M_some (tc_T_sf h4 1 (by decide) (by decide) (by decide) (by decide) hv)
/-- cycles of a step: under 45, at least 2 -/
theorem tc_inst {b : Nat} {σ τ : tc_S} (h : tc_T b σ τ) : tc_M (tc_QK b) (m_XM_instruct σ) (m_XR_instruction τ) := by
  rw [tc_inst_c, tc_inst_r]
  obtain ⟨n, hn, en⟩ := tc_T_B h 1 (by decide) (by decide) (by decide)
  have hn : n < 65536 := hn
  have gp := tc_T_g h 1 (by decide)
  -- the counter behind the fetch
  have hpc : ∀ c : Int32 × tc_S, m_XR_fetch τ = some c → tc_gf c.2 1 = (tc_gf τ 1 + 2) &&& 65535 := by
    intro c hc
    obtain ⟨v, hv, e1, e2⟩ := tc_q h hn
    unfold m_XR_fetch at hc
    rw [en, e2, tc_bs] at hc
    cases hc
    rw [en]
    show tc_gf (tc_sf τ 1 ((nI n + 2) &&& 65535)) 1 = _
    rw [tc_gf_sf, if_pos rfl]
  obtain ⟨a, c, f1, f2, e1, ⟨x, hx, ex⟩, h1⟩ := tc_fetch h
  have hpc := hpc c f2
  rw [f1, f2]
  simp only [tc_bs]
  rw [e1, ex]
  refine tc_M_bind (tc_dec h1 hx) (fun a' c' k => ?_)
  unfold m_XM_instruct_130 m_XR_instruction_24 m_XM_instruct_147 m_XR_instruction_50
  rcases k with ⟨k1, ⟨m, hm, em⟩, k3, k4⟩ | ⟨k1, k2, k3, k4⟩
  · rw [k1, em] 
    rw [em] at k3
    have hm0 : ¬ nI m = 0 := by
      intro z
      rw [z] at k3
      exact absurd k3 (by decide)
    rw [if_neg hm0, if_pos (nI_pos' (by omega))]
    exact tc_M_some ⟨rfl, ⟨m, hm, rfl⟩, k3, k4⟩
  · rw [k1, k2, k3, k4, if_pos rfl, if_neg (by decide), gp, hpc, en]
    have e5 : (((nI n + 2) &&& 65535) - 2) &&& 65535 = nI n := by
      rw [show nI n + 2 = nI (n + 2) from nI_add n 2, tc_msk (n := n + 2) (by omega) 16 (by decide)]
      by_cases w : n + 2 < 65536
      · rw [Nat.mod_eq_of_lt w, show nI (n + 2) - 2 = nI (n + 2 - 2) from pk_sub (b := 2) (by omega), tc_msk (by omega) 16 (by decide)]
        congr 1; omega
      · have : n = 65534 ∨ n = 65535 := by omega
        rcases this with rfl | rfl <;> decide
    rw [e5]
    have h2 := tc_T_sf h1 1 (v := nI n) (by decide) (by decide) (by decide) (by decide) ⟨n, hn, rfl⟩
    have := tc_raise (k := 4) h2 (by decide)
    refine tc_M_bind this (fun a c h3 => tc_M_some (tc_QK_l 34 rfl (by decide) (by decide) h3))
theorem tc_intr {b : Nat} {σ τ : tc_S} (h : tc_T b σ τ) {k : Nat} (hk : k < 8) : tc_M (tc_QK b) (m_XM_interrupt σ (nI k)) (m_XR_interrupt τ (nI k)) := by
  have e : (24 : Int32) + nI k = nI (24 + k) := nI_add 24 k
  unfold m_XM_interrupt m_XR_interrupt
  rw [e]
  refine tc_M_bind (tc_raise (k := 24 + k) h (by omega)) (fun a c h1 => ?_)
  exact tc_M_some (tc_QK_l 44 rfl (by decide) (by decide) (tc_T_sf (tc_T_sf h1 2 (by decide) (by decide) (by decide) (by decide) ⟨k, hk, rfl⟩) 7 (by decide) (by decide) (by decide) (by decide) (tc_B_0 (by decide))))
