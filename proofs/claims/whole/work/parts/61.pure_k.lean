theorem ti_ss (a b c : Int32) : (a - b) - c = a - (b + c) := Int32.sub_sub a b c
/-! the second processor, while it does one instruction: L cycles at its start, c bytes of ROM read since, d owed before -/
def tc_x17 : Nat → Prop := fun k => k = 17
def tq_V (L : Int32) (d c : Nat) (σ τ : tc_S) : Prop := tc_rel tc_x17 σ τ ∧ tc_inv τ ∧ tc_gf τ 17 = L ∧ tc_gf τ 35 = nI (3 * c) ∧ tc_gf σ 17 = L - nI (3 * c) ∧ tc_gf τ 18 = nI (d + 11 * c)
def tq_Q (L : Int32) (d c0 k n : Nat) (a c : Int32 × tc_S) : Prop := a.1 = c.1 ∧ tc_B n c.1 ∧ ∃ c', c0 ≤ c' ∧ c' ≤ c0 + k ∧ tq_V L d c' a.2 c.2
theorem tq_V_g {L : Int32} {d c : Nat} {σ τ : tc_S} (h : tq_V L d c σ τ) (k : Nat) (hk : k < 33) (h1 : k ≠ 17) : tc_gf σ k = tc_gf τ k := h.1.1 k hk h1
theorem tq_V_B {L : Int32} {d c : Nat} {σ τ : tc_S} (h : tq_V L d c σ τ) (k : Nat) (hk : k < 34) (h1 : k ≠ 17) (h2 : k ≠ 18) : tc_B (tc_bd k) (tc_gf τ k) := h.2.1.1 k hk h1 h2
theorem tq_V_sf {L : Int32} {d c : Nat} {σ τ : tc_S} (h : tq_V L d c σ τ) (k : Nat) {v : Int32} (hk : k < 33) (h1 : k ≠ 17) (h2 : k ≠ 18) (hv : tc_B (tc_bd k) v) : tq_V L d c (tc_sf σ k v) (tc_sf τ k v) := by
  obtain ⟨a1, a2, a3, a4, a5, a6⟩ := h
  refine ⟨tc_rel_sf a1 k hk v, tc_inv_sf a2 k (fun _ _ _ => hv), ?_, ?_, ?_, ?_⟩
  · rw [tc_gf_sf, if_neg (Ne.symm h1)]; exact a3
  · rw [tc_gf_sf, if_neg (by omega)]; exact a4
  · rw [tc_gf_sf, if_neg (Ne.symm h1)]; exact a5
  · rw [tc_gf_sf, if_neg (Ne.symm h2)]; exact a6
theorem tq_V_sa {L : Int32} {d c : Nat} {σ τ : tc_S} (h : tq_V L d c σ τ) (j : Nat) (i : Int32) {v : Int32} (hj : j < 7) (hv : tc_B (tc_ab j) v) : tq_V L d c (tc_sa σ j i v) (tc_sa τ j i v) := by
  obtain ⟨a1, a2, a3, a4, a5, a6⟩ := h
  exact ⟨tc_rel_sa a1 j hj i v, tc_inv_sa a2 j i hv, a3, a4, a5, a6⟩
theorem tq_V_rom {L : Int32} {d c : Nat} {σ τ : tc_S} (h : tq_V L d c σ τ) : tq_V L d (c + 1) (tc_sf (tc_sf σ 17 ((tc_gf σ 17) - 3)) 18 ((tc_gf (tc_sf σ 17 ((tc_gf σ 17) - 3)) 18) + 11)) (tc_sf (tc_sf τ 35 ((tc_gf τ 35) + 3)) 18 ((tc_gf (tc_sf τ 35 ((tc_gf τ 35) + 3)) 18) + 11)) := by
  have g18 := tq_V_g h 18 (by decide) (by decide)
  obtain ⟨⟨h1, h2, h3, h4, h5⟩, a2, a3, a4, a5, a6⟩ := h
  have e18 : tc_gf (tc_sf σ 17 (tc_gf σ 17 - 3)) 18 = tc_gf τ 18 := by rw [← g18]; rfl
  have e18' : tc_gf (tc_sf τ 35 (tc_gf τ 35 + 3)) 18 = tc_gf τ 18 := rfl
  rw [e18, e18']
  refine ⟨⟨fun k hk hx => ?_, h2, h3, h4, h5⟩, tc_inv_sf (tc_inv_sf a2 35 (fun k _ _ => absurd k (by decide))) 18 (fun _ _ k => absurd rfl k), a3, ?_, ?_, ?_⟩
  · rw [tc_gf_sf, tc_gf_sf, tc_gf_sf, tc_gf_sf]
    by_cases e : k = 18
    · rw [if_pos e, if_pos e]
    · rw [if_neg e, if_neg e, if_neg (show ¬ k = 17 from hx), if_neg (by omega)]; exact h1 k hk hx
  · show tc_gf τ 35 + 3 = _
    rw [a4]; exact nI_add (3 * c) 3
  · show tc_gf σ 17 - 3 = _
    rw [a5, ti_ss]
    congr 1
    exact nI_add (3 * c) 3
  · show tc_gf τ 18 + 11 = _
    rw [a6]
    exact nI_add (d + 11 * c) 11
theorem tc_ld {L : Int32} {d c n : Nat} {σ τ : tc_S} (h : tq_V L d c σ τ) (hn : n < 65536) : tc_M (tq_Q L d c 1 256) (m_XS_readByte σ (nI n)) (m_XR_load τ (nI n)) := by
  have l : (32768 : Int32) ≤ nI n ↔ 32768 ≤ n := tc_le (a := 32768) rfl (by decide) (by omega)
  have e1 : nI n &&& 511 = nI (n % 512) := tc_msk (by omega) 9 (by decide)
  have e2 : nI (n % 512) >>> ((1 : Int32) &&& 31) = nI (n % 512 / 2) := tc_shr (by omega) _ 1 (by decide)
  have e3 : nI n &&& 127 = nI (n % 128) := tc_msk (by omega) 7 (by decide)
  have e4 : nI n - nI n / 512 * 512 = nI (n % 512) := tc_mod (D := 512) (d := 512) rfl (by omega) (by decide) (by decide)
  have e5 : nI n - nI n / 128 * 128 = nI (n % 128) := tc_mod (D := 128) (d := 128) rfl (by omega) (by decide) (by decide)
  have e6 : (nI n &&& 1 = 0) ↔ n % 2 = 0 := by
    rw [tc_msk (n := n) (by omega) 1 (by decide)]; exact tc_eqN (a := 0) rfl (by decide) (by omega)
  unfold m_XS_readByte m_XR_load m_XS_readByte_68
  rw [e1, e2, e3, e4, e5, tc_gd_nI (by omega) (by decide), tc_gd_nI (by omega) (by decide), tc_gd_nI (by omega) (by decide), tc_gd_nI (by omega) (by decide)]
  refine tc_M_if Iff.rfl (fun _ _ => ?_) (fun _ _ => ?_)
  · have hr := tq_V_rom h
    simp only [tc_ga_sf]
    have w : tc_ga σ 7 (nI (n % 512 / 2)) = 256 * τ.2 7 (2 * (n % 512 / 2)) + τ.2 7 (2 * (n % 512 / 2) + 1) := by
      unfold tc_ga
      rw [tc_clamp (by omega)]
      exact h.1.2.2.2.1 _ (by omega)
    have wr : tc_ga τ 7 (nI (n % 512)) = τ.2 7 (n % 512) := by
      unfold tc_ga
      rw [tc_clamp (by omega)]
    obtain ⟨x, hx, ex⟩ := h.2.1.2 7 (2 * (n % 512 / 2))
    obtain ⟨y, hy, ey⟩ := h.2.1.2 7 (2 * (n % 512 / 2) + 1)
    have hx : x < 256 := hx
    have hy : y < 256 := hy
    rw [w, wr, ex, ey, show (256 : Int32) * nI x = nI (256 * x) from pk_mul 256 x, nI_add]
    have w8 : nI (256 * x + y) >>> ((8 : Int32) &&& 31) = nI x := by
      rw [show nI (256 * x + y) >>> ((8 : Int32) &&& 31) = nI ((256 * x + y) / 256) from tc_shr (by omega) _ 8 (by decide)]
      congr 1; omega
    have wl : nI (256 * x + y) &&& 255 = nI y := by
      rw [tc_msk (n := 256 * x + y) (by omega) 8 (by decide)]
      congr 1; omega
    rw [w8, wl]
    by_cases p : n % 2 = 0
    · rw [if_pos (e6.mpr p)]
      rw [show 2 * (n % 512 / 2) = n % 512 by omega] at ex
      rw [ex]
      exact tc_M_some ⟨rfl, ⟨x, hx, rfl⟩, c + 1, by omega, by omega, hr⟩
    · rw [if_neg (fun k => p (e6.mp k))]
      rw [show 2 * (n % 512 / 2) + 1 = n % 512 by omega] at ey
      rw [ey]
      exact tc_M_some ⟨rfl, ⟨y, hy, rfl⟩, c + 1, by omega, by omega, hr⟩
  · have ea : tc_ga σ 1 (nI (n % 128)) = tc_ga τ 1 (nI (n % 128)) := by unfold tc_ga; rw [h.1.2.2.1 1 (by decide)]
    rw [ea]
    exact tc_M_some ⟨rfl, h.2.1.2 1 _, c, by omega, by omega, h⟩
theorem tc_nx {L : Int32} {d c : Nat} {σ τ : tc_S} (h : tq_V L d c σ τ) : tc_M (tq_Q L d c 1 256) (m_XS_nextByte σ) (m_XR_next τ) := by
  obtain ⟨n, hn, en⟩ := tq_V_B h 11 (by decide) (by decide) (by decide)
  unfold m_XS_nextByte m_XR_next
  rw [tq_V_g h 11 (by decide) (by decide), en]
  refine tc_M_bind (tc_ld h hn) (fun a b k => ?_)
  obtain ⟨e1, hB, c', l1, l2, hv⟩ := k
  rw [tq_V_g hv 11 (by decide) (by decide)]
  exact tc_M_some ⟨e1, hB, c', l1, l2, tq_V_sf hv 11 (by decide) (by decide) (by decide) (tc_B_16 _)⟩
theorem tc_pr {L : Int32} {d c : Nat} {σ τ : tc_S} (h : tq_V L d c σ τ) : tc_M (tq_Q L d c 2 65536) (m_XS_nextAddress σ) (m_XR_pair τ) := by
  unfold m_XS_nextAddress m_XR_pair
  refine tc_M_bind (tc_nx h) (fun a b k => ?_)
  obtain ⟨e1, ⟨x, hx, ex⟩, c', l1, l2, hv⟩ := k
  refine tc_M_bind (tc_nx hv) (fun a' b' k => ?_)
  obtain ⟨e2, ⟨y, hy, ey⟩, c'', l3, l4, hv'⟩ := k
  have e3 : a'.1 * 256 + a.1 = b.1 + 256 * b'.1 := by rw [e1, e2, Int32.mul_comm, Int32.add_comm]
  refine tc_M_some ⟨e3, ?_, c'', by omega, by omega, hv'⟩
  show tc_B 65536 (b.1 + 256 * b'.1)
  rw [ex, ey, show (256 : Int32) * nI y = nI (256 * y) from pk_mul 256 y, nI_add]
  exact ⟨x + 256 * y, by omega, rfl⟩
theorem tq_Q_l {L : Int32} {d c0 c k n : Nat} {σ τ : tc_S} {r : Int32} (m : Nat) (hr : r = nI m) (hm : m < n) (h1 : c0 ≤ c) (h2 : c ≤ c0 + k) (h : tq_V L d c σ τ) : tq_Q L d c0 k n (r, σ) (r, τ) := ⟨rfl, ⟨m, hm, hr⟩, c, h1, h2, h⟩
theorem tc_cnt8 {L : Int32} {d c : Nat} {σ τ : tc_S} (h : tq_V L d c σ τ) (v : Int32) : tc_M (tq_V L d c) ((m_XS_count σ v).bind (fun q => some q.2)) (m_XR_becomes τ v) ∧ ∃ s, m_XS_count σ v = some (4, s) := by
  have h1 := tq_V_sf (v := v &&& 255) h 8 (by decide) (by decide) (by decide) (tc_B_8 v)
  have g : tc_gf (tc_sf σ 8 (v &&& 255)) 8 = v &&& 255 := rfl
  have g' : tc_gf (tc_sf τ 8 (v &&& 255)) 8 = v &&& 255 := rfl
  unfold m_XS_count m_XR_becomes m_XS_count_22 m_XR_becomes_22
  rw [g, g']
  simp only [tc_gb_0, tc_gb_1]
  by_cases c0 : v &&& 255 = 0
  · simp only [c0, if_true]
    rw [c0] at h1
    exact ⟨⟨_, _, rfl, rfl, tq_V_sf h1 12 (by decide) (by decide) (by decide) (tc_B_1 (by decide))⟩, _, rfl⟩
  · simp only [c0, if_false]
    exact ⟨⟨_, _, rfl, rfl, tq_V_sf h1 12 (by decide) (by decide) (by decide) (tc_B_0 (by decide))⟩, _, rfl⟩
theorem tc_sec {L : Int32} {d : Nat} {σ τ : tc_S} (h : tq_V L d 0 σ τ) : tc_M (fun a c => a.1 = c.1 ∧ (∃ m, 4 ≤ m ∧ m ≤ 13 ∧ c.1 = nI m) ∧ ∃ c', c' ≤ 4 ∧ tq_V L d c' a.2 c.2) (m_XS_instruct σ) (m_XR_second τ) := by
  unfold m_XS_instruct m_XR_second
  refine tc_M_bind (tc_nx h) (fun a b k => ?_)
  obtain ⟨e1, hB, c1, _, l1, hv⟩ := k
  rw [e1]
  have fin : ∀ {s t : tc_S} {r : Int32} (m c' : Nat), r = nI m → 4 ≤ m → m ≤ 13 → c' ≤ 4 → tq_V L d c' s t → tc_M (fun (a c : Int32 × tc_S) => a.1 = c.1 ∧ (∃ m, 4 ≤ m ∧ m ≤ 13 ∧ c.1 = nI m) ∧ ∃ c', c' ≤ 4 ∧ tq_V L d c' a.2 c.2) (some (r, s)) (some (r, t)) := fun m c' hr h1 h2 h3 hv => tc_M_some ⟨rfl, ⟨m, h1, h2, hr⟩, c', h3, hv⟩
  have cnt : ∀ v u : Int32, v = u → tc_M (fun (a c : Int32 × tc_S) => a.1 = c.1 ∧ (∃ m, 4 ≤ m ∧ m ≤ 13 ∧ c.1 = nI m) ∧ ∃ c', c' ≤ 4 ∧ tq_V L d c' a.2 c.2) ((m_XS_count a.2 v).bind (fun q => some (q.1, q.2))) ((m_XR_becomes b.2 u).bind (fun q => some (4, q))) := by
    intro v u e
    subst e
    obtain ⟨⟨x, y, k1, k2, k3⟩, s, ks⟩ := tc_cnt8 hv v
    rw [ks, tc_bs] at k1
    rw [ks, k2, tc_bs, tc_bs]
    have : s = x := Option.some.inj k1
    subst this
    exact fin 4 c1 rfl (by decide) (by decide) (by omega) k3
  have g8 := tq_V_g hv 8 (by decide) (by decide)
  have g9 := tq_V_g hv 9 (by decide) (by decide)
  have g10 := tq_V_g hv 10 (by decide) (by decide)
  have b8 := tq_V_B hv 8 (by decide) (by decide) (by decide)
  have b9 := tq_V_B hv 9 (by decide) (by decide) (by decide)
  have b10 := tq_V_B hv 10 (by decide) (by decide) (by decide)
  rw [g8, g9, g10]
  refine tc_M_if Iff.rfl (fun _ _ => ?_) (fun _ _ => ?_)
  · refine tc_M_bind (tc_nx hv) (fun a b k => ?_)
    obtain ⟨e2, ⟨x, hx, ex⟩, c2, _, l2, hv2⟩ := k
    unfold m_XS_branch m_XR_second_294
    have g12 := tq_V_g hv2 12 (by decide) (by decide)
    have g11 := tq_V_g hv2 11 (by decide) (by decide)
    rw [g12, g11, e2]
    by_cases cz : tc_gf b.2 12 = 0
    · rw [if_pos cz, if_pos cz, tc_bs]
      have eb : b.1.toInt8.toInt32 = if b.1 ≤ 127 then b.1 else b.1 - 256 := by
        rw [ti_byte, ex, tc_msk (n := x) (by omega) 8 (by decide), Nat.mod_eq_of_lt hx]
      rw [eb]
      by_cases cb : b.1 ≤ 127
      · rw [if_pos cb, if_pos cb]
        exact fin 12 c2 rfl (by decide) (by decide) (by omega) (tq_V_sf hv2 11 (by decide) (by decide) (by decide) (tc_B_16 _))
      · rw [if_neg cb, if_neg cb]
        exact fin 12 c2 rfl (by decide) (by decide) (by omega) (tq_V_sf hv2 11 (by decide) (by decide) (by decide) (tc_B_16 _))
    · rw [if_neg cz, if_neg cz, tc_bs]
      exact fin 7 c2 rfl (by decide) (by decide) (by omega) hv2
  refine tc_M_if Iff.rfl (fun _ _ => ?_) (fun _ _ => ?_)
  · refine tc_M_bind (tc_pr hv) (fun a b k => ?_)
    obtain ⟨e2, ⟨x, hx, ex⟩, c2, _, l2, hv2⟩ := k
    unfold m_XS_writeByte m_XS_writeByte_19 m_XR_second_241
    rw [e2, ex, tq_V_g hv2 8 (by decide) (by decide)]
    have f1 : nI x &&& 127 = nI (x % 128) := tc_msk (by omega) 7 (by decide)
    have f2 : nI x - nI x / 128 * 128 = nI (x % 128) := tc_mod (D := 128) (d := 128) rfl (by omega) (by decide) (by decide)
    rw [f1, f2, tc_gd_nI (by omega) (by decide), tc_gd_nI (by omega) (by decide)]
    by_cases cr : (32768 : Int32) ≤ nI x
    · rw [if_pos cr, if_pos cr, tc_bs]
      exact fin 13 c2 rfl (by decide) (by decide) (by omega) hv2
    · rw [if_neg cr, if_neg cr, tc_bs]
      exact fin 13 c2 rfl (by decide) (by decide) (by omega) (tq_V_sa hv2 1 _ (by decide) (tq_V_B hv2 8 (by decide) (by decide) (by decide)))
  refine tc_M_if Iff.rfl (fun _ _ => ?_) (fun _ _ => ?_)
  · refine tc_M_bind (tc_pr hv) (fun a b k => ?_)
    obtain ⟨e2, ⟨x, hx, ex⟩, c2, _, l2, hv2⟩ := k
    rw [e2, ex]
    refine tc_M_bind (tc_ld hv2 hx) (fun a b k => ?_)
    obtain ⟨e3, hB3, c3, _, l3, hv3⟩ := k
    rw [e3]
    exact fin 13 c3 rfl (by decide) (by decide) (by omega) (tq_V_sf hv3 8 (by decide) (by decide) (by decide) hB3)
  refine tc_M_if Iff.rfl (fun _ _ => cnt _ _ rfl) (fun _ _ => ?_)
  refine tc_M_if Iff.rfl (fun _ _ => cnt _ _ rfl) (fun _ _ => ?_)
  refine tc_M_if Iff.rfl (fun _ _ => ?_) (fun _ _ => ?_)
  · refine tc_M_bind (tc_nx hv) (fun a b k => ?_)
    obtain ⟨e2, hB2, c2, _, l2, hv2⟩ := k
    rw [e2]
    exact fin 7 c2 rfl (by decide) (by decide) (by omega) (tq_V_sf hv2 8 (by decide) (by decide) (by decide) hB2)
  refine tc_M_if Iff.rfl (fun _ _ => fin 4 c1 rfl (by decide) (by decide) (by omega) (tq_V_sf hv 9 (by decide) (by decide) (by decide) b8)) (fun _ _ => ?_)
  refine tc_M_if Iff.rfl (fun _ _ => fin 4 c1 rfl (by decide) (by decide) (by omega) (tq_V_sf hv 10 (by decide) (by decide) (by decide) b8)) (fun _ _ => ?_)
  refine tc_M_if Iff.rfl (fun _ _ => fin 4 c1 rfl (by decide) (by decide) (by omega) (tq_V_sf hv 13 (by decide) (by decide) (by decide) (tc_B_1 (by decide)))) (fun _ _ => ?_)
  refine tc_M_if Iff.rfl (fun _ _ => fin 4 c1 rfl (by decide) (by decide) (by omega) (tq_V_sf hv 8 (by decide) (by decide) (by decide) b9)) (fun _ _ => ?_)
  refine tc_M_if Iff.rfl (fun _ _ => cnt _ _ rfl) (fun _ _ => ?_)
  refine tc_M_if Iff.rfl (fun _ _ => ?_) (fun _ _ => ?_)
  · refine tc_M_bind (tc_pr hv) (fun a b k => ?_)
    obtain ⟨e2, hB2, c2, _, l2, hv2⟩ := k
    rw [e2]
    exact fin 10 c2 rfl (by decide) (by decide) (by omega) (tq_V_sf hv2 11 (by decide) (by decide) (by decide) hB2)
  refine tc_M_if Iff.rfl (fun _ _ => fin 10 c1 rfl (by decide) (by decide) (by omega) (tq_V_sf hv 11 (by decide) (by decide) (by decide) (tc_B_le b10 (by decide)))) (fun _ _ => ?_)
  refine tc_M_if Iff.rfl (fun _ _ => fin 4 c1 rfl (by decide) (by decide) (by omega) (tq_V_sf hv 14 (by decide) (by decide) (by decide) (tc_B_0 (by decide)))) (fun _ _ => ?_)
  refine tc_M_if Iff.rfl (fun _ _ => fin 4 c1 rfl (by decide) (by decide) (by omega) (tq_V_sf hv 14 (by decide) (by decide) (by decide) (tc_B_1 (by decide)))) (fun _ _ => ?_)
  exact fin 4 c1 rfl (by decide) (by decide) (by omega) hv
