theorem tc_bs {α β : Type} (a : α) (f : α → Option β) : (some a).bind f = f a := by
  have h : (some a).bind f = f a := rfl
  exact h.trans (Eq.refl _)
def tc_lx (σ : tc_S) : Int32 := (256 * tc_ga σ 5 12 + tc_ga σ 5 11) - (256 * tc_ga σ 5 12 + tc_ga σ 5 11) / 512 * 512
def tc_ln (σ : tc_S) : Int32 := if tc_lx σ = 0 then 512 else tc_lx σ
theorem tc_ln_r (σ : tc_S) : m_XR_length σ = some (tc_ln σ, σ) := by
  have c2 : m_XR_length σ = (if tc_lx σ = 0 then some (512, σ) else some (tc_lx σ, σ)) := rfl
  rw [c2]
  unfold tc_ln
  by_cases c : tc_lx σ = 0
  · rw [if_pos c, if_pos c]
  · rw [if_neg c, if_neg c]
theorem tc_ln_sf (σ : tc_S) (k : Nat) (v : Int32) : tc_ln (tc_sf σ k v) = tc_ln σ := rfl
theorem tc_B_or {k : Nat} {x y : Int32} (hx : tc_B (2 ^ k) x) (hy : tc_B (2 ^ k) y) : tc_B (2 ^ k) (x ||| y) := by
  obtain ⟨a, h1, rfl⟩ := hx
  obtain ⟨c, h2, rfl⟩ := hy
  exact ⟨a ||| c, Nat.or_lt_two_pow h1 h2, tb_or a c⟩
theorem tc_B_shl {a k c : Nat} {x s : Int32} (hx : tc_B a x) (hs : (s.toBitVec.smod 32).toNat = k) (h : a * 2 ^ k ≤ c) (hc : c ≤ 2 ^ 32) : tc_B c (x <<< s) := by
  obtain ⟨n, h1, rfl⟩ := hx
  have h2 : n * 2 ^ k < a * 2 ^ k := Nat.mul_lt_mul_of_pos_right h1 (Nat.two_pow_pos k)
  exact ⟨n * 2 ^ k, by omega, pk_shlN s k hs (by omega)⟩
theorem tc_B_shr {a k c : Nat} {x s : Int32} (hx : tc_B a x) (ha : a ≤ 2 ^ 31) (hs : (s.toBitVec.smod 32).toNat = k) (h : a ≤ c * 2 ^ k) : tc_B c (x >>> s) := by
  obtain ⟨n, h1, rfl⟩ := hx
  refine ⟨n / 2 ^ k, ?_, tc_shr (by omega) s k hs⟩
  exact Nat.div_lt_of_lt_mul (by rw [Nat.mul_comm]; omega)
theorem tc_B_sub {a c : Nat} {x m : Int32} (k : Nat) (hm : m.toBitVec.toNat = k) (ha : k < c) (hk : k < 2 ^ 31) : tc_B c (x &&& m) := by
  refine ⟨(x &&& m).toBitVec.toNat, ?_, ?_⟩
  · have : (x &&& m).toBitVec.toNat = x.toBitVec.toNat &&& m.toBitVec.toNat := by simp
    rw [this, hm]
    exact Nat.lt_of_le_of_lt Nat.and_le_right ha
  · apply Int32.toBitVec_inj.mp
    show (x &&& m).toBitVec = BitVec.ofNat 32 _
    simp
/-! the address with its last bit turned, by the two ways of taking it within 1024 -/
theorem tc_x1 {n : Nat} (hn : n < 65536) : (nI n ^^^ 1) &&& 1023 = nI ((n ^^^ 1) % 1024) ∧ (nI n ^^^ 1) - (nI n ^^^ 1) / 1024 * 1024 = nI ((n ^^^ 1) % 1024) := by
  have h1 := tb_xor1 hn
  have hl : n ^^^ 1 < 2 ^ 31 := by rw [h1]; split <;> omega
  rw [show nI n ^^^ 1 = nI (n ^^^ 1) from tb_xor n 1]
  exact ⟨tc_msk hl 10 (by decide), tc_mod (D := 1024) (d := 1024) rfl hl (by decide) (by decide)⟩
theorem tc_fill {b L : Nat} (hL : L ≤ 512) {w : Int32} (hw : tc_B 65536 w) : ∀ (k f f' : Nat) {σ τ : tc_S} (i : Nat), i + k = L → k < f → k < f' → tc_T b σ τ → tc_M (tc_T b) (m_XP_fill_2 f σ (w >>> ((8 : Int32) &&& 31)) (nI L) (nI i)) (m_XR_writeData_29 f' τ w (nI L) (nI i)) := by
  intro k
  induction k with
  | zero =>
    intro f f' σ τ i hi hf hf' h
    obtain ⟨f, rfl⟩ : ∃ g, f = g + 1 := ⟨f - 1, by omega⟩
    obtain ⟨f', rfl⟩ : ∃ g, f' = g + 1 := ⟨f' - 1, by omega⟩
    have hi : i = L := hi
    subst hi
    unfold m_XP_fill_2 m_XR_writeData_29
    rw [if_pos (Int32.le_refl _), if_pos (Int32.le_refl _)]
    exact ⟨_, _, rfl, rfl, tc_T_em h⟩
  | succ k ih =>
    intro f f' σ τ i hi hf hf' h
    obtain ⟨f, rfl⟩ : ∃ g, f = g + 1 := ⟨f - 1, by omega⟩
    obtain ⟨f', rfl⟩ : ∃ g, f' = g + 1 := ⟨f' - 1, by omega⟩
    obtain ⟨n, hn, en⟩ := tc_T_B h 19 (by decide) (by decide) (by decide)
    have hn : n < 65536 := hn
    have hle : ¬ nI L ≤ nI i := nI_ge (by omega) (by omega)
    unfold m_XP_fill_2 m_XR_writeData_29
    rw [if_neg hle, if_neg hle, tc_T_g h 19 (by decide), en, (tc_x1 hn).1, (tc_x1 hn).2, tc_gd_nI (by omega) (by decide), tc_gd_nI (by omega) (by decide), tc_grow_c, tc_grow_r, nI_1]
    exact ih f f' (i + 1) (by omega) (by omega) (by omega) (tc_T_gw (tc_T_sa h 2 _ (by decide) (tc_B_shr hw (by decide) (k := 8) (by decide) (by decide))))
theorem tc_copy {b L m : Nat} (hL : L ≤ 512) (hm : m < 32768) : ∀ (k f f' : Nat) {σ τ : tc_S} (i : Nat), i + k = L → k < f → k < f' → tc_T b σ τ → tc_M (tc_T b) (m_XP_copy_7 f σ (nI L) (nI m) (nI i)) (m_XR_begin_63 f' τ (nI L) (nI m) (nI i)) := by
  intro k
  induction k with
  | zero =>
    intro f f' σ τ i hi hf hf' h
    obtain ⟨f, rfl⟩ : ∃ g, f = g + 1 := ⟨f - 1, by omega⟩
    obtain ⟨f', rfl⟩ : ∃ g, f' = g + 1 := ⟨f' - 1, by omega⟩
    have hi : i = L := hi
    subst hi
    unfold m_XP_copy_7 m_XR_begin_63
    rw [if_pos (Int32.le_refl _), if_pos (Int32.le_refl _)]
    exact ⟨_, _, rfl, rfl, tc_T_em h⟩
  | succ k ih =>
    intro f f' σ τ i hi hf hf' h
    obtain ⟨f, rfl⟩ : ∃ g, f = g + 1 := ⟨f - 1, by omega⟩
    obtain ⟨f', rfl⟩ : ∃ g, f' = g + 1 := ⟨f' - 1, by omega⟩
    obtain ⟨n, hn, en⟩ := tc_T_B h 19 (by decide) (by decide) (by decide)
    have hn : n < 65536 := hn
    have hle : ¬ nI L ≤ nI i := nI_ge (by omega) (by omega)
    have e1 : nI n &&& 1023 = nI (n % 1024) := tc_msk (by omega) 10 (by decide)
    have e2 : nI n - nI n / 1024 * 1024 = nI (n % 1024) := tc_mod (D := 1024) (d := 1024) rfl (by omega) (by decide) (by decide)
    have e3 : nI (m + i) &&& 1023 = nI ((m + i) % 1024) := tc_msk (by omega) 10 (by decide)
    have e4 : nI (m + i) - nI (m + i) / 1024 * 1024 = nI ((m + i) % 1024) := tc_mod (D := 1024) (d := 1024) rfl (by omega) (by decide) (by decide)
    unfold m_XP_copy_7 m_XR_begin_63
    rw [if_neg hle, if_neg hle, tc_T_g h 19 (by decide), en, nI_add, e1, e2, e3, e4, tc_gd_nI (by omega) (by decide), tc_gd_nI (by omega) (by decide), tc_gd_nI (by omega) (by decide), tc_gd_nI (by omega) (by decide), tc_grow_c, tc_grow_r, nI_1, tc_T_a h 2 (by decide)]
    exact ih f f' (i + 1) (by omega) (by omega) (by omega) (tc_T_gw (tc_T_sa h 2 _ (by decide) (tc_T_Ba h 2 _)))
theorem tc_wData {b : Nat} {σ τ : tc_S} {w : Int32} (h : tc_T b σ τ) (hw : tc_B 65536 w) : tc_M (tc_T b) (m_XP_writeData σ w) (m_XR_writeData τ w) := by
  unfold m_XP_writeData m_XR_writeData
  refine tc_M_bind (tc_put (tc_T_sf h 21 (by decide) (by decide) (by decide) (by decide) (tc_B_0 (by decide))) hw) (fun a c h1 => ?_)
  refine tc_M_if (by rw [tc_T_g h1 22 (by decide)]) (fun _ _ => tc_M_some h1) (fun _ _ => ?_)
  have h2 := tc_T_sf h1 22 (by decide) (by decide) (by decide) (by decide) (tc_B_0 (b := tc_bd 22) (by decide))
  obtain ⟨L, h0, hL, e1, e2⟩ := tc_len h2
  rw [e1, e2]
  have := tc_fill hL hw L 2000 2000 0 (by omega) (by omega) (by omega) h2
  show tc_M (tc_T b) ((m_XP_fill_2 2000 (tc_sf a 22 0) (w >>> ((8 : Int32) &&& 31)) (nI L) 0).bind _) (m_XR_writeData_29 2000 (tc_sf c 22 0) w (nI L) 0)
  obtain ⟨x, y, k1, k2, k3⟩ := this
  rw [nI_0] at k1 k2
  rw [k1, k2]
  exact ⟨_, _, rfl, rfl, k3⟩
/-! CONTROL -/
def tc_c2 (σ : tc_S) (w : Int32) : tc_S := tc_sf (tc_sf (tc_sf σ 21 0) 19 (((tc_gf (tc_sf σ 21 0) 19) &&& 16383) ||| ((w &&& 3) <<< ((14 : Int32) &&& 31)))) 20 (((tc_gf (tc_sf (tc_sf σ 21 0) 19 (((tc_gf (tc_sf σ 21 0) 19) &&& 16383) ||| ((w &&& 3) <<< ((14 : Int32) &&& 31)))) 20) &&& 3) ||| (((w >>> ((4 : Int32) &&& 31)) &&& 15) <<< ((2 : Int32) &&& 31)))
def tc_bg (σ : tc_S) : Option tc_S := tc_gd 15 16 (if ((tc_ga σ 5 15) >>> ((6 : Int32) &&& 31)) = 2 then some (tc_sf σ 22 1) else (if ((tc_ga σ 5 15) >>> ((6 : Int32) &&& 31)) = 3 then ((m_XP_moveLength σ).bind (fun q126 => ((m_XP_copy q126.2 q126.1).bind (fun q129 => some q129)))) else ((m_XP_halfSource σ).bind (fun q138 => ((m_XP_moveLength (tc_sf q138.2 24 (2 * q138.1))).bind (fun q147 => some (tc_sf q147.2 23 q147.1)))))))
theorem tc_wC_eq (σ : tc_S) (w : Int32) : m_XP_writeControl σ w = (if (tc_gf σ 21) = 0 then ((m_XP_takeFirstWord σ w).bind (fun q9 => some q9)) else (if ((tc_gf (tc_c2 σ w) 20) &&& 32) = 0 then some (tc_c2 σ w) else (tc_gd 1 16 (if ((tc_ga (tc_c2 σ w) 5 1) &&& 16) = 0 then some (tc_c2 σ w) else tc_bg (tc_c2 σ w))))) := rfl
theorem tc_cC_eq (σ : tc_S) (w : Int32) : m_XR_control σ w = (if (tc_gf σ 21) = 0 then (m_XP_takeFirstWord σ w) else (if ((tc_gf (tc_c2 σ w) 20) &&& 32) = 0 then some (tc_c2 σ w) else (tc_gd 1 16 (if ((tc_ga (tc_c2 σ w) 5 1) &&& 16) = 0 then some (tc_c2 σ w) else ((m_XR_begin (tc_c2 σ w)).bind (fun q => some q)))))) := rfl
theorem tc_T_c2 {b : Nat} {σ τ : tc_S} {w : Int32} (h : tc_T b σ τ) (hw : tc_B 65536 w) : tc_T b (tc_c2 σ w) (tc_c2 τ w) := by
  unfold tc_c2
  have h1 := tc_T_sf h 21 (by decide) (by decide) (by decide) (by decide) (tc_B_0 (b := tc_bd 21) (by decide))
  rw [tc_T_g h1 19 (by decide)]
  have h2 := tc_T_sf (v := ((tc_gf (tc_sf τ 21 0) 19) &&& 16383) ||| ((w &&& 3) <<< ((14 : Int32) &&& 31))) h1 19 (by decide) (by decide) (by decide) (by decide)
    (tc_B_or (k := 16) (tc_B_le (tc_B_and _ 14 (by decide)) (by decide)) (tc_B_shl (k := 14) (tc_B_and w (m := 3) 2 (by decide)) (by decide) (by decide) (by decide)))
  rw [tc_T_g h2 20 (by decide)]
  exact tc_T_sf h2 20 (by decide) (by decide) (by decide) (by decide)
    (tc_B_or (k := 6) (tc_B_le (tc_B_and _ 2 (by decide)) (by decide)) (tc_B_shl (k := 2) (tc_B_and _ (m := 15) 4 (by decide)) (by decide) (by decide) (by decide)))
theorem tc_first {b : Nat} {σ τ : tc_S} {w : Int32} (h : tc_T b σ τ) (hw : tc_B 65536 w) : tc_M (tc_T b) (m_XP_takeFirstWord σ w) (m_XP_takeFirstWord τ w) := by
  unfold m_XP_takeFirstWord
  refine tc_M_if Iff.rfl (fun _ _ => ?_) (fun _ _ => ?_)
  · rw [tc_gd_and (k := 4) _ (by decide) (by decide), tc_gd_and (k := 4) _ (by decide) (by decide)]
    have h1 := tc_T_sa (i := (w >>> ((8 : Int32) &&& 31)) &&& 15) h 5 (by decide) (tc_B_8 w)
    rw [tc_T_g h1 20 (by decide)]
    exact tc_M_some (tc_T_sf h1 20 (by decide) (by decide) (by decide) (by decide) (tc_B_sub (a := 0) 60 (by decide) (by decide) (by decide)))
  · rw [tc_T_g h 19 (by decide)]
    have h1 := tc_T_sf (v := ((tc_gf τ 19) &&& 49152) ||| (w &&& 16383)) h 19 (by decide) (by decide) (by decide) (by decide)
      (tc_B_or (k := 16) (tc_B_sub (a := 0) 49152 (by decide) (by decide) (by decide)) (tc_B_le (tc_B_and w 14 (by decide)) (by decide)))
    rw [tc_T_g h1 20 (by decide)]
    have h2 := tc_T_sf (v := ((tc_gf (tc_sf τ 19 (((tc_gf τ 19) &&& 49152) ||| (w &&& 16383))) 20) &&& 60) ||| (w >>> ((14 : Int32) &&& 31))) h1 20 (by decide) (by decide) (by decide) (by decide)
      (tc_B_or (k := 6) (tc_B_sub (a := 0) 60 (by decide) (by decide) (by decide)) (tc_B_le (tc_B_shr (c := 4) hw (by decide) (k := 14) (by decide) (by decide)) (by decide)))
    exact tc_M_some (tc_T_sf h2 21 (by decide) (by decide) (by decide) (by decide) (tc_B_1 (by decide)))
theorem tc_begin {b : Nat} {σ τ : tc_S} (h : tc_T b σ τ) : tc_M (tc_T b) (tc_bg σ) ((m_XR_begin τ).bind (fun q => some q)) := by
  obtain ⟨x, hx, ex⟩ := tc_T_Ba h 5 15
  have hx : x < 256 := hx
  have ex6 : nI x >>> ((6 : Int32) &&& 31) = nI (x / 64) := tc_shr (by omega) _ 6 (by decide)
  unfold tc_bg m_XR_begin
  rw [tc_T_a h 5 (by decide), ex, ex6]
  have g15 : ∀ (z : Option tc_S), tc_gd 15 16 z = z := fun z => rfl
  rw [g15, g15]
  have q2 : (nI (x / 64) = 2) ↔ x / 64 = 2 := tc_eqN (a := 2) rfl (by decide) (by omega)
  have q3 : (nI (x / 64) = 3) ↔ x / 64 = 3 := tc_eqN (a := 3) rfl (by decide) (by omega)
  have ql : (2 : Int32) ≤ nI (x / 64) ↔ 2 ≤ x / 64 := tc_le (a := 2) rfl (by decide) (by omega)
  by_cases c2 : x / 64 = 2
  · rw [if_pos (q2.mpr c2), if_pos (ql.mpr (by omega)), if_pos (q2.mpr c2)]
    exact ⟨_, _, rfl, rfl, tc_T_sf h 22 (by decide) (by decide) (by decide) (by decide) (tc_B_1 (by decide))⟩
  · rw [if_neg (fun k => c2 (q2.mp k))]
    by_cases c3 : x / 64 = 3
    · rw [if_pos (q3.mpr c3), if_pos (ql.mpr (by omega)), if_neg (fun k => c2 (q2.mp k))]
      obtain ⟨L, h0, hL, e1, e2⟩ := tc_len h
      obtain ⟨hh, ⟨m, hm, em⟩⟩ := tc_T_hf h
      rw [e1, e2]
      simp only [tc_bs]
      unfold m_XP_copy
      rw [tc_hf_c, tc_hf_r, hh, em]
      have := tc_copy hL hm L 2000 2000 0 (by omega) (by omega) (by omega) h
      obtain ⟨p, q, k1, k2, k3⟩ := this
      rw [nI_0] at k1 k2
      simp only [tc_bs]
      rw [k1, k2]
      exact ⟨_, _, rfl, rfl, k3⟩
    · rw [if_neg (fun k => c3 (q3.mp k)), if_neg (fun k => by have := ql.mp k; omega)]
      obtain ⟨hh, ⟨m, hm, em⟩⟩ := tc_T_hf h
      obtain ⟨L, h0, hL, e1, e2⟩ := tc_len h
      rw [tc_hf_c, e2]
      simp only [tc_bs]
      rw [tc_hf_r]
      simp only [tc_bs]
      have ehf : tc_hf (tc_sf τ 23 (nI L)) = tc_hf τ := rfl
      rw [ehf, hh, em, show 2 * nI m = nI (2 * m) from pk_mul 2 m]
      have h1 := tc_T_sf h 24 (by decide) (by decide) (by decide) (by decide) (v := nI (2 * m)) ⟨2 * m, by show 2 * m < 65536; omega, rfl⟩
      obtain ⟨L', h0', hL', e1', e2'⟩ := tc_len h1
      have eL : nI L' = nI L := by
        rw [tc_ln_r] at e2 e2'
        have t1 := congrArg Prod.fst (Option.some.inj e2)
        have t2 := congrArg Prod.fst (Option.some.inj e2')
        exact t2.symm.trans t1
      rw [e1', eL]
      refine ⟨_, _, rfl, rfl, ?_⟩
      show tc_T b (tc_sf (tc_sf σ 24 (nI (2 * m))) 23 (nI L)) (tc_sf (tc_sf τ 23 (nI L)) 24 (nI (2 * m)))
      have h2 := tc_T_sf h1 23 (by decide) (by decide) (by decide) (by decide) (v := nI L) ⟨L, by show L < 513; omega, rfl⟩
      have sw : tc_sf (tc_sf τ 23 (nI L)) 24 (nI (2 * m)) = tc_sf (tc_sf τ 24 (nI (2 * m))) 23 (nI L) := by
        unfold tc_sf
        refine Prod.ext ?_ rfl
        funext k
        simp only [upd]
        by_cases k1 : k = 24
        · subst k1; simp
        · simp [k1]
      rw [sw]
      exact h2
theorem tc_control {b : Nat} {σ τ : tc_S} {w : Int32} (h : tc_T b σ τ) (hw : tc_B 65536 w) : tc_M (tc_T b) (m_XP_writeControl σ w) (m_XR_control τ w) := by
  rw [tc_wC_eq, tc_cC_eq]
  have h2 := tc_T_c2 h hw
  refine tc_M_if (by rw [tc_T_g h 21 (by decide)]) (fun _ _ => ?_) (fun _ _ => ?_)
  · obtain ⟨x, y, k1, k2, k3⟩ := tc_first h hw
    rw [k1, k2]
    exact ⟨_, _, rfl, rfl, k3⟩
  · refine tc_M_if (by rw [tc_T_g h2 20 (by decide)]) (fun _ _ => tc_M_some h2) (fun _ _ => ?_)
    have g1 : ∀ (z : Option tc_S), tc_gd 1 16 z = z := fun z => rfl
    rw [g1, g1]
    refine tc_M_if (by rw [tc_T_a h2 5 (by decide)]) (fun _ _ => tc_M_some h2) (fun _ _ => tc_begin h2)
