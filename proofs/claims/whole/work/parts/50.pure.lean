/-! pure rows: reading what was written -/
theorem tc_gf_sf (σ : tc_S) (k : Nat) (v : Int32) (j : Nat) : tc_gf (tc_sf σ k v) j = if j = k then v else tc_gf σ j := rfl
theorem tc_gf_sa (σ : tc_S) (j : Nat) (i v : Int32) (k : Nat) : tc_gf (tc_sa σ j i v) k = tc_gf σ k := rfl
theorem tc_ga_sf (σ : tc_S) (k : Nat) (v : Int32) (j : Nat) (i : Int32) : tc_ga (tc_sf σ k v) j i = tc_ga σ j i := rfl
theorem tc_ga_sa (σ : tc_S) (j : Nat) (i v : Int32) (j' : Nat) (i' : Int32) : tc_ga (tc_sa σ j i v) j' i' = if j' = j then (if i'.toNatClampNeg = i.toNatClampNeg then v else tc_ga σ j i') else tc_ga σ j' i' := by
  unfold tc_ga tc_sa va_up upd
  by_cases h : j' = j
  · subst h; simp
  · simp [h]
theorem tc_sf2 (σ : tc_S) (k : Nat) (v : Int32) : (tc_sf σ k v).2 = σ.2 := rfl
theorem tc_sa2 (σ : tc_S) (j : Nat) (i v : Int32) (j' : Nat) : (tc_sa σ j i v).2 j' = if j' = j then upd (σ.2 j) i.toNatClampNeg v else σ.2 j' := rfl
theorem tc_vp {x : Int32} {n : Nat} (h0 : 0 ≤ x.toInt) (h1 : x.toInt < n) : ¬ (x < 0 ∨ n ≤ x.toNatClampNeg) := vp_in_iff.mpr ⟨h0, h1⟩
theorem tc_gd_ok {α : Type} {i : Int32} {n : Nat} {x : Option α} (h : vp_in i n) : tc_gd i n x = x := if_neg h
theorem tc_gd_nI {α : Type} {k n : Nat} {x : Option α} (h : k < n) (hn : n < 2 ^ 31) : tc_gd (nI k) n x = x := tc_gd_ok (vp_in_nI h hn)
theorem tc_gd_and {α : Type} (y : Int32) {m : Int32} (k : Nat) {x : Option α} (hm : m.toBitVec.toNat = 2 ^ k - 1) (hk : k ≤ 30) : tc_gd (y &&& m) (2 ^ k) x = x := tc_gd_ok (pk_andIn y k hm hk)
theorem tc_gb_0 {α : Type} (x : Option α) : tc_gb 0 x = x := rfl
theorem tc_gb_1 {α : Type} (x : Option α) : tc_gb 1 x = x := rfl
/-! two runs side by side -/
def tc_M {α β : Type} (Q : α → β → Prop) (x : Option α) (y : Option β) : Prop := ∃ a c, x = some a ∧ y = some c ∧ Q a c
theorem tc_M_bind {α β α' β' : Type} {Q : α → β → Prop} {Q' : α' → β' → Prop} {x : Option α} {y : Option β} {f : α → Option α'} {g : β → Option β'} (h : tc_M Q x y) (k : ∀ a c, Q a c → tc_M Q' (f a) (g c)) : tc_M Q' (x.bind f) (y.bind g) := by
  obtain ⟨a, c, rfl, rfl, hq⟩ := h
  exact k a c hq
theorem tc_M_if {α β : Type} {Q : α → β → Prop} {c d : Prop} [Decidable c] [Decidable d] {x x' : Option α} {y y' : Option β} (hcd : c ↔ d) (h1 : c → d → tc_M Q x y) (h2 : ¬ c → ¬ d → tc_M Q x' y') : tc_M Q (if c then x else x') (if d then y else y') := by
  by_cases hc : c
  · rw [if_pos hc, if_pos (hcd.mp hc)]; exact h1 hc (hcd.mp hc)
  · rw [if_neg hc, if_neg (fun h => hc (hcd.mpr h))]; exact h2 hc (fun h => hc (hcd.mpr h))
theorem tc_M_some {α β : Type} {Q : α → β → Prop} {a : α} {c : β} (h : Q a c) : tc_M Q (some a) (some c) := ⟨a, c, rfl, rfl, h⟩
theorem tc_M_mono {α β : Type} {Q Q' : α → β → Prop} {x : Option α} {y : Option β} (h : tc_M Q x y) (k : ∀ a c, Q a c → Q' a c) : tc_M Q' x y := by
  obtain ⟨a, c, h1, h2, hq⟩ := h
  exact ⟨a, c, h1, h2, k a c hq⟩
/-! numbers under a bound -/
def tc_B (b : Nat) (x : Int32) : Prop := ∃ n : Nat, n < b ∧ x = nI n
theorem tc_B_le {a b : Nat} {x : Int32} (h : tc_B a x) (hab : a ≤ b) : tc_B b x := by
  obtain ⟨n, h1, h2⟩ := h
  exact ⟨n, by omega, h2⟩
theorem tc_B_and (x : Int32) {m : Int32} (k : Nat) (hm : m.toBitVec.toNat = 2 ^ k - 1) : tc_B (2 ^ k) (x &&& m) := pk_andE x k hm
theorem tc_B_16 (x : Int32) : tc_B 65536 (x &&& 65535) := tc_B_and x 16 (by decide)
theorem tc_B_8 (x : Int32) : tc_B 256 (x &&& 255) := tc_B_and x 8 (by decide)
theorem tc_B_0 {b : Nat} (h : 0 < b) : tc_B b 0 := ⟨0, h, rfl⟩
theorem tc_B_1 {b : Nat} (h : 1 < b) : tc_B b 1 := ⟨1, h, rfl⟩
def tc_bd : Nat → Nat
  | 0 => 65536 | 1 => 65536 | 2 => 8 | 3 => 2 | 4 => 2 | 5 => 2 | 6 => 2 | 7 => 2 | 8 => 256 | 9 => 256 | 10 => 256 | 11 => 65536
  | 12 => 2 | 13 => 2 | 14 => 2 | 15 => 2 | 16 => 2 | 19 => 65536 | 20 => 64 | 21 => 2 | 22 => 2 | 23 => 513 | 24 => 65536 | 25 => 2 | 26 => 2
  | 27 => 12 | 28 => 64 | 29 => 256 | 30 => 2 | 31 => 2 | 32 => 256 | 33 => 2 | _ => 0
def tc_ab : Nat → Nat
  | 1 => 256 | 2 => 256 | 3 => 65536 | 4 => 65536 | 5 => 256 | 7 => 256 | 8 => 256 | _ => 4294967296
/-- class and reference hold the same, but for the numbers that X leaves out -/
def tc_rel (X : Nat → Prop) (σ τ : tc_S) : Prop :=
  (∀ k, k < 33 → ¬ X k → tc_gf σ k = tc_gf τ k) ∧ tc_gf σ 33 = 64 * tc_gf τ 33 ∧ (∀ j, j < 7 → σ.2 j = τ.2 j) ∧
  (∀ k, k < 256 → σ.2 7 k = 256 * τ.2 7 (2 * k) + τ.2 7 (2 * k + 1)) ∧ (∀ k, k < 64 → σ.2 8 k = 256 * τ.2 8 (2 * k) + τ.2 8 (2 * k + 1))
/-- what the reference's numbers keep to -/
def tc_inv (τ : tc_S) : Prop := (∀ k, k < 34 → k ≠ 17 → k ≠ 18 → tc_B (tc_bd k) (tc_gf τ k)) ∧ (∀ j i, tc_B (tc_ab j) (τ.2 j i))
def tc_cnt (b : Nat) (τ : tc_S) : Prop := -64 ≤ (tc_gf τ 17).toInt ∧ (tc_gf τ 17).toInt ≤ 0 ∧ (tc_gf τ 14 ≠ 0 → -32 ≤ (tc_gf τ 17).toInt) ∧ 0 ≤ (tc_gf τ 18).toInt ∧ (tc_gf τ 18).toInt ≤ b
def tc_no : Nat → Prop := fun _ => False
def tc_T (b : Nat) (σ τ : tc_S) : Prop := tc_rel tc_no σ τ ∧ tc_inv τ ∧ tc_cnt b τ
def tc_QI (b n : Nat) (a c : Int32 × tc_S) : Prop := a.1 = c.1 ∧ tc_B n c.1 ∧ tc_T b a.2 c.2
theorem tc_rel_sf {X : Nat → Prop} {σ τ : tc_S} (h : tc_rel X σ τ) (k : Nat) (hk : k < 33) (v : Int32) : tc_rel X (tc_sf σ k v) (tc_sf τ k v) := by
  obtain ⟨h1, h2, h3, h4, h5⟩ := h
  refine ⟨fun j hj hx => ?_, ?_, h3, h4, h5⟩
  · rw [tc_gf_sf, tc_gf_sf, h1 j hj hx]
  · rw [tc_gf_sf, tc_gf_sf, if_neg (by omega), if_neg (by omega)]; exact h2
theorem tc_rel_sa {X : Nat → Prop} {σ τ : tc_S} (h : tc_rel X σ τ) (j : Nat) (hj : j < 7) (i v : Int32) : tc_rel X (tc_sa σ j i v) (tc_sa τ j i v) := by
  obtain ⟨h1, h2, h3, h4, h5⟩ := h
  refine ⟨h1, h2, fun j' hj' => ?_, fun k hk => ?_, fun k hk => ?_⟩
  · rw [tc_sa2, tc_sa2, h3 j hj, h3 j' hj']
  · rw [tc_sa2, tc_sa2, if_neg (by omega), if_neg (by omega)]; exact h4 k hk
  · rw [tc_sa2, tc_sa2, if_neg (by omega), if_neg (by omega)]; exact h5 k hk
theorem tc_inv_sf {τ : tc_S} (h : tc_inv τ) (k : Nat) {v : Int32} (hv : k < 34 → k ≠ 17 → k ≠ 18 → tc_B (tc_bd k) v) : tc_inv (tc_sf τ k v) := by
  refine ⟨fun j hj h17 h18 => ?_, h.2⟩
  rw [tc_gf_sf]
  by_cases e : j = k
  · subst e; rw [if_pos rfl]; exact hv hj h17 h18
  · rw [if_neg e]; exact h.1 j hj h17 h18
theorem tc_inv_sa {τ : tc_S} (h : tc_inv τ) (j : Nat) (i : Int32) {v : Int32} (hv : tc_B (tc_ab j) v) : tc_inv (tc_sa τ j i v) := by
  refine ⟨h.1, fun j' i' => ?_⟩
  rw [tc_sa2]
  by_cases e : j' = j
  · subst e
    rw [if_pos rfl]
    unfold upd
    by_cases e2 : i' = i.toNatClampNeg
    · rw [if_pos e2]; exact hv
    · rw [if_neg e2]; exact h.2 _ _
  · rw [if_neg e]; exact h.2 _ _
theorem tc_cnt_sf {b : Nat} {τ : tc_S} (h : tc_cnt b τ) (k : Nat) (v : Int32) (h1 : k ≠ 17) (h2 : k ≠ 18) (h3 : k ≠ 14) : tc_cnt b (tc_sf τ k v) := by
  unfold tc_cnt at h ⊢
  rw [tc_gf_sf, tc_gf_sf, tc_gf_sf, if_neg (Ne.symm h1), if_neg (Ne.symm h2), if_neg (Ne.symm h3)]
  exact h
theorem tc_T_sf {b : Nat} {σ τ : tc_S} (h : tc_T b σ τ) (k : Nat) {v : Int32} (hk : k < 33) (h1 : k ≠ 17) (h2 : k ≠ 18) (h3 : k ≠ 14) (hv : tc_B (tc_bd k) v) : tc_T b (tc_sf σ k v) (tc_sf τ k v) :=
  ⟨tc_rel_sf h.1 k hk v, tc_inv_sf h.2.1 k (fun _ _ _ => hv), tc_cnt_sf h.2.2 k v h1 h2 h3⟩
theorem tc_T_sa {b : Nat} {σ τ : tc_S} (h : tc_T b σ τ) (j : Nat) (i : Int32) {v : Int32} (hj : j < 7) (hv : tc_B (tc_ab j) v) : tc_T b (tc_sa σ j i v) (tc_sa τ j i v) :=
  ⟨tc_rel_sa h.1 j hj i v, tc_inv_sa h.2.1 j i hv, h.2.2⟩
theorem tc_T_g {b : Nat} {σ τ : tc_S} (h : tc_T b σ τ) (k : Nat) (hk : k < 33) : tc_gf σ k = tc_gf τ k := h.1.1 k hk (fun f => f)
theorem tc_T_a {b : Nat} {σ τ : tc_S} (h : tc_T b σ τ) (j : Nat) (hj : j < 7) (i : Int32) : tc_ga σ j i = tc_ga τ j i := by
  unfold tc_ga; rw [h.1.2.2.1 j hj]
theorem tc_T_B {b : Nat} {σ τ : tc_S} (h : tc_T b σ τ) (k : Nat) (hk : k < 34) (h1 : k ≠ 17) (h2 : k ≠ 18) : tc_B (tc_bd k) (tc_gf τ k) := h.2.1.1 k hk h1 h2
theorem tc_T_Ba {b : Nat} {σ τ : tc_S} (h : tc_T b σ τ) (j : Nat) (i : Int32) : tc_B (tc_ab j) (tc_ga τ j i) := h.2.1.2 j _
