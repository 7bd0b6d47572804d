/-! the pieces of an instruction's word -/
theorem tb_split {a c m1 m2 : Nat} (hc : c < 256) (hm : m2 < 256) : (256 * a + c) &&& (256 * m1 + m2) = 256 * (a &&& m1) + (c &&& m2) := by
  have hc : c < 2 ^ 8 := hc
  have hm : m2 < 2 ^ 8 := hm
  have hcm : c &&& m2 < 2 ^ 8 := Nat.and_lt_two_pow _ hm
  apply Nat.eq_of_testBit_eq
  intro i
  rw [show 256 = 2 ^ 8 from rfl, Nat.testBit_and, Nat.testBit_two_pow_mul_add _ hc, Nat.testBit_two_pow_mul_add _ hm, Nat.testBit_two_pow_mul_add _ hcm]
  by_cases h : i < 8
  · rw [if_pos h, if_pos h, if_pos h, Nat.testBit_and]
  · rw [if_neg h, if_neg h, if_neg h, Nat.testBit_and]
theorem tb_248 : ∀ c, c < 256 → c &&& 248 = c / 8 * 8 := by decide +kernel
theorem tb_241 : ∀ c, c < 256 → c &&& 241 = c / 16 * 16 + c % 2 := by decide +kernel
theorem tb_1 : ∀ c, c < 256 → c &&& 1 = c % 2 := by decide +kernel
theorem tb_255 : ∀ c, c < 256 → c &&& 255 = c := by decide +kernel
theorem tb_hl {x : Nat} (m1 m2 : Nat) (hm : m2 < 256) : nI x &&& nI (256 * m1 + m2) = nI (256 * (x / 256 &&& m1) + (x % 256 &&& m2)) := by
  rw [tb_and]
  have : 256 * (x / 256) + x % 256 = x := by omega
  rw [← tb_split (Nat.mod_lt _ (by decide)) hm, this]
theorem tz_504 {x : Nat} (hx : x < 65536) : nI x &&& 504 = nI (256 * (x / 256 % 2) + x % 256 / 8 * 8) := by
  have := tb_hl (x := x) 1 248 (by decide)
  rw [tb_1 _ (by omega), tb_248 _ (by omega)] at this
  exact this
theorem tz_65528 {x : Nat} (hx : x < 65536) : nI x &&& 65528 = nI (256 * (x / 256) + x % 256 / 8 * 8) := by
  have := tb_hl (x := x) 255 248 (by decide)
  rw [tb_255 _ (by omega), tb_248 _ (by omega)] at this
  exact this
theorem tz_61696 {x : Nat} (hx : x < 65536) : nI x &&& 61696 = nI (256 * (x / 256 / 16 * 16 + x / 256 % 2)) := by
  have := tb_hl (x := x) 241 0 (by decide)
  rw [tb_241 _ (by omega), Nat.and_zero] at this
  exact this
theorem tz_61944 {x : Nat} (hx : x < 65536) : nI x &&& 61944 = nI (256 * (x / 256 / 16 * 16 + x / 256 % 2) + x % 256 / 8 * 8) := by
  have := tb_hl (x := x) 241 248 (by decide)
  rw [tb_241 _ (by omega), tb_248 _ (by omega)] at this
  exact this
/-- class: the instruction's cycles, 0 if it isn't known -/
def tc_sw (σ : tc_S) (w : Int32) : Option (Int32 × tc_S) := if (w >>> ((12 : Int32) &&& 31)) = 3 then m_XM_moveWord σ w else if (w >>> ((12 : Int32) &&& 31)) = 4 then m_XM_controlMachine σ w else if (w >>> ((12 : Int32) &&& 31)) = 6 then m_XM_branch σ w else if (w >>> ((12 : Int32) &&& 31)) = 7 then m_XM_moveQuick σ w else if (w >>> ((12 : Int32) &&& 31)) = 11 then m_XM_compare σ w else if (w >>> ((12 : Int32) &&& 31)) = 13 then m_XM_add σ w else some (0, σ)
theorem tc_inst_c (σ : tc_S) : m_XM_instruct σ = (m_XM_nextWord σ).bind (fun q => (tc_sw q.2 q.1).bind (fun r => m_XM_instruct_130 r.2 (tc_gf σ 1) r.1)) := by
  unfold m_XM_instruct
  refine congrArg _ (funext fun q => ?_)
  unfold tc_sw
  generalize q.1 >>> ((12 : Int32) &&& 31) = k
  by_cases c3 : k = 3
  · rw [if_pos c3, if_pos c3]
  rw [if_neg c3, if_neg c3]
  by_cases c4 : k = 4
  · rw [if_pos c4, if_pos c4]
  rw [if_neg c4, if_neg c4]
  by_cases c5 : k = 5
  · subst c5; rfl
  rw [if_neg c5]
  by_cases c6 : k = 6
  · rw [if_pos c6, if_pos c6]
  rw [if_neg c6, if_neg c6]
  by_cases c7 : k = 7
  · rw [if_pos c7, if_pos c7]
  rw [if_neg c7, if_neg c7]
  by_cases c8 : k = 8
  · subst c8; rfl
  rw [if_neg c8]
  by_cases c9 : k = 9
  · subst c9; rfl
  rw [if_neg c9]
  by_cases c10 : k = 10
  · subst c10; rfl
  rw [if_neg c10]
  by_cases c11 : k = 11
  · rw [if_pos c11, if_pos c11]
  rw [if_neg c11, if_neg c11]
  by_cases c12 : k = 12
  · subst c12; rfl
  rw [if_neg c12]
  by_cases c13 : k = 13
  · rw [if_pos c13, if_pos c13]
  rw [if_neg c13, if_neg c13]
  rfl
def tc_rs (τ : tc_S) (w : Int32) : Option (Int32 × tc_S) := (m_XR_move τ w).bind (fun q7 => if 0 ≤ q7.1 then some q7 else m_XR_control2 q7.2 w)
theorem tc_inst_r (τ : tc_S) : m_XR_instruction τ = (m_XR_fetch τ).bind (fun q => (tc_rs q.2 q.1).bind (fun r => m_XR_instruction_24 r.2 r.1)) := by
  unfold m_XR_instruction
  refine congrArg _ (funext fun q => ?_)
  unfold tc_rs
  rw [Option.bind_assoc]
  refine congrArg _ (funext fun r => ?_)
  by_cases c : 0 ≤ r.1
  · rw [if_pos c, if_pos c]; rfl
  · rw [if_neg c, if_neg c]
theorem tc_known {b : Nat} {σ τ : tc_S} {X A : Option (Int32 × tc_S)} {f : Int32 × tc_S → Option (Int32 × tc_S)} (h : tc_M (tc_QK b) X A) : tc_M (tc_QD b σ τ) X (A.bind (fun q7 => if 0 ≤ q7.1 then some q7 else f q7)) := by
  obtain ⟨a, c, e1, e2, hq⟩ := h
  refine ⟨a, c, e1, ?_, Or.inl hq⟩
  rw [e2, tc_bs]
  obtain ⟨k1, ⟨n, hn, en⟩, k3, k4⟩ := hq
  rw [if_pos (by rw [en]; exact nI_pos' (by omega))]
theorem tc_knownD {b : Nat} {σ τ : tc_S} {X A : Option (Int32 × tc_S)} (h : tc_M (tc_QK b) X A) : tc_M (tc_QD b σ τ) X A := tc_M_mono h (fun _ _ k => Or.inl k)
theorem tc_move3 {b : Nat} {σ τ : tc_S} (h : tc_T b σ τ) {x : Nat} (hx : x < 65536) (h3 : x / 4096 = 3) : tc_M (tc_QD b σ τ) (m_XM_moveWord σ (nI x)) (tc_rs τ (nI x)) := by
  have a1 : (nI x &&& 504 = 0) ↔ 256 * (x / 256 % 2) + x % 256 / 8 * 8 = 0 := by rw [tz_504 hx]; exact tc_eqN (a := 0) rfl (by decide) (by omega)
  have a2 : (nI x &&& 511 = 56) ↔ x % 512 = 56 := by rw [tc_msk (n := x) (by omega) 9 (by decide)]; exact tc_eqN (a := 56) rfl (by decide) (by omega)
  have a3 : (nI x = 12796) ↔ x = 12796 := tc_eqN (a := 12796) rfl (by decide) (by omega)
  have a4 : (nI x &&& 65528 = 12736) ↔ 256 * (x / 256) + x % 256 / 8 * 8 = 12736 := by rw [tz_65528 hx]; exact tc_eqN (a := 12736) rfl (by decide) (by omega)
  have r1 : (nI x &&& 61696 = 28672) ↔ 256 * (x / 256 / 16 * 16 + x / 256 % 2) = 28672 := by rw [tz_61696 hx]; exact tc_eqN (a := 28672) rfl (by decide) (by omega)
  have r2 : (nI x &&& 61944 = 12288) ↔ 256 * (x / 256 / 16 * 16 + x / 256 % 2) + x % 256 / 8 * 8 = 12288 := by rw [tz_61944 hx]; exact tc_eqN (a := 12288) rfl (by decide) (by omega)
  have r3 : (nI x &&& 61944 = 12344) ↔ 256 * (x / 256 / 16 * 16 + x / 256 % 2) + x % 256 / 8 * 8 = 12344 := by rw [tz_61944 hx]; exact tc_eqN (a := 12344) rfl (by decide) (by omega)
  have r4 : (nI x &&& 7 = 0) ↔ x % 8 = 0 := by rw [tc_msk (n := x) (by omega) 3 (by decide)]; exact tc_eqN (a := 0) rfl (by decide) (by omega)
  have r5 : nI x < (12736 : Int32) ↔ x < 12736 := nI_ltI (b := 12736) (by omega) (by decide)
  have r6 : (12744 : Int32) ≤ nI x ↔ 12744 ≤ x := tc_le (a := 12744) rfl (by decide) (by omega)
  have r7 : (nI x &&& 61944 = 53312) ↔ 256 * (x / 256 / 16 * 16 + x / 256 % 2) + x % 256 / 8 * 8 = 53312 := by rw [tz_61944 hx]; exact tc_eqN (a := 53312) rfl (by decide) (by omega)
  have r8 : (nI x &&& 61944 = 45120) ↔ 256 * (x / 256 / 16 * 16 + x / 256 % 2) + x % 256 / 8 * 8 = 45120 := by rw [tz_61944 hx]; exact tc_eqN (a := 45120) rfl (by decide) (by omega)
  have d1 : ¬ 256 * (x / 256 / 16 * 16 + x / 256 % 2) = 28672 := by omega
  unfold m_XM_moveWord tc_rs m_XR_move
  simp only [a1, a2, a3, r1, r2, r3, r4, d1, if_false]
  by_cases c1 : 256 * (x / 256 % 2) + x % 256 / 8 * 8 = 0
  · have d2 : 256 * (x / 256 / 16 * 16 + x / 256 % 2) + x % 256 / 8 * 8 = 12288 := by omega
    simp only [c1, d2, if_true]
    exact tc_known (tc_k1 h (nI x) _)
  have d2 : ¬ 256 * (x / 256 / 16 * 16 + x / 256 % 2) + x % 256 / 8 * 8 = 12288 := by omega
  by_cases c2 : x % 512 = 56
  · have d3 : 256 * (x / 256 / 16 * 16 + x / 256 % 2) + x % 256 / 8 * 8 = 12344 := by omega
    have d4 : x % 8 = 0 := by omega
    simp only [c1, c2, d2, d3, d4, if_true, if_false]
    exact tc_known (tc_k2 h _)
  simp only [c1, c2, d2, if_false]
  have ref : ∀ {X : Option (Int32 × tc_S)}, tc_M (tc_QD b σ τ) X ((m_XR_move_183 τ (nI x) ((nI x >>> ((9 : Int32) &&& 31)) &&& 7) (nI x &&& 7) (nI x &&& 61944)).bind (fun q7 => if 0 ≤ q7.1 then some q7 else m_XR_control2 q7.2 (nI x))) → tc_M (tc_QD b σ τ) X (Option.bind (if 256 * (x / 256 / 16 * 16 + x / 256 % 2) + x % 256 / 8 * 8 = 12344 then (if x % 8 = 0 then ((m_XR_fetch τ).bind (fun q159 => ((m_XR_read q159.2 q159.1).bind (fun q162 => ((m_XR_setLow q162.2 ((nI x >>> ((9 : Int32) &&& 31)) &&& 7) q162.1).bind (fun q171 => ((m_XR_testWord q171 q162.1).bind (fun q177 => (some ((12 : Int32), q177)))))))))) else (m_XR_move_183 τ (nI x) ((nI x >>> ((9 : Int32) &&& 31)) &&& 7) (nI x &&& 7) (nI x &&& 61944))) else (m_XR_move_183 τ (nI x) ((nI x >>> ((9 : Int32) &&& 31)) &&& 7) (nI x &&& 7) (nI x &&& 61944))) (fun q7 => if 0 ≤ q7.1 then some q7 else m_XR_control2 q7.2 (nI x))) := by
    intro X hX
    by_cases d3 : 256 * (x / 256 / 16 * 16 + x / 256 % 2) + x % 256 / 8 * 8 = 12344
    · rw [if_pos d3, if_neg (by omega)]; exact hX
    · rw [if_neg d3]; exact hX
  apply ref
  unfold m_XR_move_183 m_XR_move_227
  simp only [a3, r5, r6, r7, r8]
  unfold m_XM_moveWord_73 m_XM_moveWord_90 m_XM_moveWord_113 m_XM_moveWord_146
  by_cases c3 : x = 12796
  · subst c3
    simp (decide := true) only [if_true, if_false]
    refine tc_known ?_
    refine tc_M_bind (tc_fetch h) (fun a c k => ?_)
    obtain ⟨e1, hv, h1⟩ := k
    rw [e1]
    exact tc_k34 h1 hv 16 rfl (by decide) (by decide)
  simp only [c3, a4, if_false, if_true]
  by_cases c4 : 256 * (x / 256) + x % 256 / 8 * 8 = 12736
  · have d5 : ¬ x < 12736 := by omega
    have d6 : ¬ 12744 ≤ x := by omega
    simp only [c4, d5, d6, if_true, if_false, tc_gd7]
    rw [tc_T_a h 0 (by decide)]
    exact tc_known (tc_k34 h (tc_B_16 _) 12 rfl (by decide) (by decide))
  have u1 : ¬ 256 * (x / 256 / 16 * 16 + x / 256 % 2) + x % 256 / 8 * 8 = 53312 := by omega
  have u2 : ¬ 256 * (x / 256 / 16 * 16 + x / 256 % 2) + x % 256 / 8 * 8 = 45120 := by omega
  have out : m_XR_control2 τ (nI x) = some (-1, τ) := by
    have e12 : nI x >>> ((12 : Int32) &&& 31) = nI (x / 4096) := tc_shr (by omega) _ 12 (by decide)
    have q1 : (nI x = 20081) ↔ x = 20081 := tc_eqN (a := 20081) rfl (by decide) (by omega)
    have q2 : (nI x = 20082) ↔ x = 20082 := tc_eqN (a := 20082) rfl (by decide) (by omega)
    have q3 : (nI x = 20083) ↔ x = 20083 := tc_eqN (a := 20083) rfl (by decide) (by omega)
    have q4 : nI x < (20064 : Int32) ↔ x < 20064 := nI_ltI (b := 20064) (by omega) (by decide)
    have t1 : ¬ x = 20081 := by omega
    have t2 : ¬ x = 20082 := by omega
    have t3 : ¬ x = 20083 := by omega
    have t4 : x < 20064 := by omega
    unfold m_XR_control2 m_XR_control2_118 m_XR_control2_136
    simp only [q1, q2, q3, q4, t1, t2, t3, t4, e12, h3, if_true, if_false]
    rfl
  have unk : tc_M (tc_QD b σ τ) (some ((0 : Int32), σ)) ((some ((-1 : Int32), τ)).bind (fun q7 => if 0 ≤ q7.1 then some q7 else m_XR_control2 q7.2 (nI x))) := by
    rw [tc_bs, if_neg (show ¬ (0 : Int32) ≤ -1 by decide), out]
    exact tc_M_some (Or.inr ⟨rfl, rfl, rfl, rfl⟩)
  simp only [c4, u1, u2, if_false]
  by_cases d5 : x < 12736
  · simp only [d5, if_true]; exact unk
  · have d6 : 12744 ≤ x := by omega
    simp only [d5, d6, if_true, if_false]; exact unk
