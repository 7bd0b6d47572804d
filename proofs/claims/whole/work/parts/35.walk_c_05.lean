section WALK_C_05
variable {p : Program} {l : Launch} {e : Env} {s : State} {m : MethodId} {args : Array Value} {below : List Frame} {meth : Method} {c : Code} {D : va_G} {cA : ClassId} {A : Nat → Prop} {ad : Nat → Nat}
def m_XD_drawPlane_a16_134 (Z : tc_S → Int32 → Int32 → Int32 → Int32 → Int32 → Int32 → Option (tc_S)) (σ : tc_S) (l3 l4 l5 l6 l7 l8 l10 k0 : Int32) : Option (tc_S) := ((m_XP_vramWord σ ((l4 + ((k0 / 4) * 8)) + (l10 / 4))).bind (fun q155 => ((m_XD_patternDot q155.2 q155.1 (l10 &&& 3) (k0 &&& 3)).bind (fun q174 => (tc_gd l8 16 (Z (tc_sa q174.2 9 l8 q174.1) l3 l4 l5 l6 l7 (l8 + 1)))))))
set_option maxHeartbeats 4000000 in
set_option maxRecDepth 100000 in
theorem w_XD_drawPlane_a16_134 (C : tc_C p s m args meth c RXD cXD_drawPlane 13 none D cA) (hJ : ∀ σ, va_D A (tc_cW ad cA σ)) {q : tc_S} {Z : tc_S → Int32 → Int32 → Int32 → Int32 → Int32 → Int32 → Option (tc_S)} (hZ : ∀ {σ : tc_S} {l3 l4 l5 l6 l7 l8 : Int32} {H : Heap} {locs : List Loc} {ls : Array Slot}, Z σ l3 l4 l5 l6 l7 l8 = some q → va_P D vwCl (tc_cW ad cA σ) H → va_S A s.heap H locs → lv_has ls 13 [(0, .ref (ad 5)), (1, .ref (ad 16)), (3, .int l3), (4, .int l4), (5, .int l5), (6, .int l6), (7, .int l7), (8, .int l8)] → W p l e (tc_R 2) s m args below meth c H locs 0 0 (MQ below (tc_Qv D (tc_cW ad cA q) A) args s 0 0 A) (F0 m 75 ls [])) {σ : tc_S} {l3 l4 l5 l6 l7 l8 l10 k0 : Int32} {H : Heap} {locs : List Loc} {ls : Array Slot} (h : m_XD_drawPlane_a16_134 Z σ l3 l4 l5 l6 l7 l8 l10 k0 = some q) (hP : va_P D vwCl (tc_cW ad cA σ) H) (hS : va_S A s.heap H locs) (hl : lv_has ls 13 [(0, .ref (ad 5)), (1, .ref (ad 16)), (3, .int l3), (4, .int l4), (5, .int l5), (6, .int l6), (7, .int l7), (8, .int l8), (10, .int l10)]) : W p l e (tc_R 2) s m args below meth c H locs 0 0 (MQ below (tc_Qv D (tc_cW ad cA q) A) args s 0 0 A) (F0 m 134 ls [.int k0]) := by
  have C0 := C
  obtain ⟨hx, hb, hml, hown, ⟨hK, hN⟩, hr, hlk⟩ := C
  unfold m_XD_drawPlane_a16_134 at h
  refine lv_istore (lv' := [(11, .int k0), (0, .ref (ad 5)), (1, .ref (ad 16)), (3, .int l3), (4, .int l4), (5, .int l5), (6, .int l6), (7, .int l7), (8, .int l8), (10, .int l10)]) hx hb dXD_drawPlane_134 hl (by decide) rfl (fun ls hl => ?_)
  refine lv_aload_n hx hb dXD_drawPlane_136 rfl (lv_at hl 1 rfl) ?_
  refine tc_cr_XD_picture C0 hP (tc_use hN tw_125) dXD_drawPlane_137 ?_
  refine lv_iload hx hb dXD_drawPlane_140 (lv_at hl 4 rfl) ?_
  refine lv_iload hx hb dXD_drawPlane_142 (lv_at hl 0 rfl) ?_
  refine lv_iconst (v := 4) hx hb dXD_drawPlane_144 (by decide) ?_
  refine lv_idiv hx hb dXD_drawPlane_145 (by decide) ?_
  refine lv_bipush (v := 8) hx hb dXD_drawPlane_146 (by decide) ?_
  refine lv_imul hx hb dXD_drawPlane_148 ?_
  refine lv_iadd hx hb dXD_drawPlane_149 ?_
  refine lv_iload hx hb dXD_drawPlane_150 (lv_at hl 9 rfl) ?_
  refine lv_iconst (v := 4) hx hb dXD_drawPlane_152 (by decide) ?_
  refine lv_idiv hx hb dXD_drawPlane_153 (by decide) ?_
  refine lv_iadd hx hb dXD_drawPlane_154 ?_
  obtain ⟨q155, e155, h⟩ := tc_bd_some h
  refine tc_cVi (As := [.int ((l4 + ((k0 / 4) * 8)) + (l10 / 4))]) (rest := []) C0 (k_XP_vramWord hJ e155) tv_XD_47 (by decide) (by decide) hP hS hl 3 rfl rfl (Nat.le_of_ble_eq_true rfl) dXD_drawPlane_155 rfl (fun H locs hP hS => ?_)
  refine lv_istore (lv' := [(12, .int q155.1), (11, .int k0), (0, .ref (ad 5)), (1, .ref (ad 16)), (3, .int l3), (4, .int l4), (5, .int l5), (6, .int l6), (7, .int l7), (8, .int l8), (10, .int l10)]) hx hb dXD_drawPlane_158 hl (by decide) rfl (fun ls hl => ?_)
  refine lv_aload_n hx hb dXD_drawPlane_160 rfl (lv_at hl 3 rfl) ?_
  refine lv_iload hx hb dXD_drawPlane_161 (lv_at hl 9 rfl) ?_
  refine lv_aload_n hx hb dXD_drawPlane_163 rfl (lv_at hl 2 rfl) ?_
  refine lv_iload hx hb dXD_drawPlane_164 (lv_at hl 0 rfl) ?_
  refine lv_iload hx hb dXD_drawPlane_166 (lv_at hl 10 rfl) ?_
  refine lv_iconst (v := 3) hx hb dXD_drawPlane_168 (by decide) ?_
  refine lv_iand hx hb dXD_drawPlane_169 ?_
  refine lv_iload hx hb dXD_drawPlane_170 (lv_at hl 1 rfl) ?_
  refine lv_iconst (v := 3) hx hb dXD_drawPlane_172 (by decide) ?_
  refine lv_iand hx hb dXD_drawPlane_173 ?_
  obtain ⟨q174, e174, h⟩ := tc_bd_some h
  refine tc_cVi (As := [.int q155.1, .int (l10 &&& 3), .int (k0 &&& 3)]) (rest := [.int l8, .ref (ad 16)]) C0 (k_XD_patternDot hJ e174) tv_XD_54 (by decide) (by decide) hP hS hl 5 rfl rfl (Nat.le_of_ble_eq_true rfl) dXD_drawPlane_174 rfl (fun H locs hP hS => ?_)
  obtain ⟨hi, h⟩ := tc_gd_some h
  refine tc_cst16 C0 hJ hP hS hi dXD_drawPlane_177 (fun H locs hP hS => ?_)
  refine lv_iinc (k := 9) (v := (l8 + 1)) (lv' := [(8, .int (l8 + 1)), (12, .int q155.1), (11, .int k0), (0, .ref (ad 5)), (1, .ref (ad 16)), (3, .int l3), (4, .int l4), (5, .int l5), (6, .int l6), (7, .int l7), (10, .int l10)]) hx hb dXD_drawPlane_178 hl rfl rfl (by decide) rfl (fun ls hl => ?_)
  refine lv_goto (tgt := 75) hx hb dXD_drawPlane_181 (by decide) ?_
  exact hZ h hP hS (lv_sub hl [3, 4, 5, 6, 7, 8, 9, 0] rfl)
def m_XD_drawPlane_a16_116 (Z : tc_S → Int32 → Int32 → Int32 → Int32 → Int32 → Int32 → Option (tc_S)) (σ : tc_S) (l3 l4 l5 l6 l7 l8 l9 k0 : Int32) : Option (tc_S) := (if l9 = 0 then (m_XD_drawPlane_a16_134 Z σ l3 l4 l5 l6 l7 l8 k0 l3) else (m_XD_drawPlane_a16_134 Z σ l3 l4 l5 l6 l7 l8 k0 ((l3 + l6) &&& 15)))
set_option maxHeartbeats 4000000 in
set_option maxRecDepth 100000 in
theorem w_XD_drawPlane_a16_116 (C : tc_C p s m args meth c RXD cXD_drawPlane 13 none D cA) (hJ : ∀ σ, va_D A (tc_cW ad cA σ)) {q : tc_S} {Z : tc_S → Int32 → Int32 → Int32 → Int32 → Int32 → Int32 → Option (tc_S)} (hZ : ∀ {σ : tc_S} {l3 l4 l5 l6 l7 l8 : Int32} {H : Heap} {locs : List Loc} {ls : Array Slot}, Z σ l3 l4 l5 l6 l7 l8 = some q → va_P D vwCl (tc_cW ad cA σ) H → va_S A s.heap H locs → lv_has ls 13 [(0, .ref (ad 5)), (1, .ref (ad 16)), (3, .int l3), (4, .int l4), (5, .int l5), (6, .int l6), (7, .int l7), (8, .int l8)] → W p l e (tc_R 2) s m args below meth c H locs 0 0 (MQ below (tc_Qv D (tc_cW ad cA q) A) args s 0 0 A) (F0 m 75 ls [])) {σ : tc_S} {l3 l4 l5 l6 l7 l8 l9 k0 : Int32} {H : Heap} {locs : List Loc} {ls : Array Slot} (h : m_XD_drawPlane_a16_116 Z σ l3 l4 l5 l6 l7 l8 l9 k0 = some q) (hP : va_P D vwCl (tc_cW ad cA σ) H) (hS : va_S A s.heap H locs) (hl : lv_has ls 13 [(0, .ref (ad 5)), (1, .ref (ad 16)), (3, .int l3), (4, .int l4), (5, .int l5), (6, .int l6), (7, .int l7), (8, .int l8), (9, .int l9)]) : W p l e (tc_R 2) s m args below meth c H locs 0 0 (MQ below (tc_Qv D (tc_cW ad cA q) A) args s 0 0 A) (F0 m 116 ls [.int k0]) := by
  have C0 := C
  obtain ⟨hx, hb, hml, hown, ⟨hK, hN⟩, hr, hlk⟩ := C
  unfold m_XD_drawPlane_a16_116 at h
  refine lv_istore (lv' := [(10, .int k0), (0, .ref (ad 5)), (1, .ref (ad 16)), (3, .int l3), (4, .int l4), (5, .int l5), (6, .int l6), (7, .int l7), (8, .int l8), (9, .int l9)]) hx hb dXD_drawPlane_116 hl (by decide) rfl (fun ls hl => ?_)
  refine lv_iload hx hb dXD_drawPlane_118 (lv_at hl 9 rfl) ?_
  refine lv_if_eq (tgt := 133) hx hb dXD_drawPlane_120 (by decide) (fun hc => ?_) (fun hc => ?_)
  · have h := tc_ip hc h
    refine lv_iload_n hx hb dXD_drawPlane_133 rfl (lv_at hl 3 rfl) ?_
    exact w_XD_drawPlane_a16_134 C0 hJ hZ h hP hS (lv_sub hl [1, 2, 3, 4, 5, 6, 7, 8, 0] rfl)
  · have h := tc_in hc h
    refine lv_iload_n hx hb dXD_drawPlane_123 rfl (lv_at hl 3 rfl) ?_
    refine lv_iload hx hb dXD_drawPlane_124 (lv_at hl 6 rfl) ?_
    refine lv_iadd hx hb dXD_drawPlane_126 ?_
    refine lv_bipush (v := 15) hx hb dXD_drawPlane_127 (by decide) ?_
    refine lv_iand hx hb dXD_drawPlane_129 ?_
    refine lv_goto (tgt := 134) hx hb dXD_drawPlane_130 (by decide) ?_
    exact w_XD_drawPlane_a16_134 C0 hJ hZ h hP hS (lv_sub hl [1, 2, 3, 4, 5, 6, 7, 8, 0] rfl)
def m_XD_drawPlane_a16_96 (Z : tc_S → Int32 → Int32 → Int32 → Int32 → Int32 → Int32 → Option (tc_S)) (σ : tc_S) (l3 l4 l5 l6 l7 l8 k0 : Int32) : Option (tc_S) := (if k0 = 0 then (m_XD_drawPlane_a16_116 Z σ l3 l4 l5 l6 l7 l8 k0 l8) else (m_XD_drawPlane_a16_116 Z σ l3 l4 l5 l6 l7 l8 k0 ((l8 - l5) &&& 31)))
set_option maxHeartbeats 4000000 in
set_option maxRecDepth 100000 in
theorem w_XD_drawPlane_a16_96 (C : tc_C p s m args meth c RXD cXD_drawPlane 13 none D cA) (hJ : ∀ σ, va_D A (tc_cW ad cA σ)) {q : tc_S} {Z : tc_S → Int32 → Int32 → Int32 → Int32 → Int32 → Int32 → Option (tc_S)} (hZ : ∀ {σ : tc_S} {l3 l4 l5 l6 l7 l8 : Int32} {H : Heap} {locs : List Loc} {ls : Array Slot}, Z σ l3 l4 l5 l6 l7 l8 = some q → va_P D vwCl (tc_cW ad cA σ) H → va_S A s.heap H locs → lv_has ls 13 [(0, .ref (ad 5)), (1, .ref (ad 16)), (3, .int l3), (4, .int l4), (5, .int l5), (6, .int l6), (7, .int l7), (8, .int l8)] → W p l e (tc_R 2) s m args below meth c H locs 0 0 (MQ below (tc_Qv D (tc_cW ad cA q) A) args s 0 0 A) (F0 m 75 ls [])) {σ : tc_S} {l3 l4 l5 l6 l7 l8 k0 : Int32} {H : Heap} {locs : List Loc} {ls : Array Slot} (h : m_XD_drawPlane_a16_96 Z σ l3 l4 l5 l6 l7 l8 k0 = some q) (hP : va_P D vwCl (tc_cW ad cA σ) H) (hS : va_S A s.heap H locs) (hl : lv_has ls 13 [(0, .ref (ad 5)), (1, .ref (ad 16)), (3, .int l3), (4, .int l4), (5, .int l5), (6, .int l6), (7, .int l7), (8, .int l8)]) : W p l e (tc_R 2) s m args below meth c H locs 0 0 (MQ below (tc_Qv D (tc_cW ad cA q) A) args s 0 0 A) (F0 m 96 ls [.int k0]) := by
  have C0 := C
  obtain ⟨hx, hb, hml, hown, ⟨hK, hN⟩, hr, hlk⟩ := C
  unfold m_XD_drawPlane_a16_96 at h
  refine lv_istore (lv' := [(9, .int k0), (0, .ref (ad 5)), (1, .ref (ad 16)), (3, .int l3), (4, .int l4), (5, .int l5), (6, .int l6), (7, .int l7), (8, .int l8)]) hx hb dXD_drawPlane_96 hl (by decide) rfl (fun ls hl => ?_)
  refine lv_iload hx hb dXD_drawPlane_98 (lv_at hl 0 rfl) ?_
  refine lv_if_eq (tgt := 114) hx hb dXD_drawPlane_100 (by decide) (fun hc => ?_) (fun hc => ?_)
  · have h := tc_ip hc h
    refine lv_iload hx hb dXD_drawPlane_114 (lv_at hl 8 rfl) ?_
    exact w_XD_drawPlane_a16_116 C0 hJ hZ h hP hS (lv_sub hl [1, 2, 3, 4, 5, 6, 7, 8, 0] rfl)
  · have h := tc_in hc h
    refine lv_iload hx hb dXD_drawPlane_103 (lv_at hl 8 rfl) ?_
    refine lv_iload hx hb dXD_drawPlane_105 (lv_at hl 5 rfl) ?_
    refine lv_isub hx hb dXD_drawPlane_107 ?_
    refine lv_bipush (v := 31) hx hb dXD_drawPlane_108 (by decide) ?_
    refine lv_iand hx hb dXD_drawPlane_110 ?_
    refine lv_goto (tgt := 116) hx hb dXD_drawPlane_111 (by decide) ?_
    exact w_XD_drawPlane_a16_116 C0 hJ hZ h hP hS (lv_sub hl [1, 2, 3, 4, 5, 6, 7, 8, 0] rfl)
def m_XD_drawPlane_a16_75 : Nat → tc_S → Int32 → Int32 → Int32 → Int32 → Int32 → Int32 → Option (tc_S)
  | 0, _, _, _, _, _, _, _ => none
  | n + 1, σ, l3, l4, l5, l6, l7, l8 => (if 16 ≤ l8 then (some σ) else (if (l8 / 4) < l7 then (m_XD_drawPlane_a16_96 (m_XD_drawPlane_a16_75 n) σ l3 l4 l5 l6 l7 l8 0) else (m_XD_drawPlane_a16_96 (m_XD_drawPlane_a16_75 n) σ l3 l4 l5 l6 l7 l8 1)))
set_option maxHeartbeats 4000000 in
set_option maxRecDepth 100000 in
theorem w_XD_drawPlane_a16_75 (C : tc_C p s m args meth c RXD cXD_drawPlane 13 none D cA) (hJ : ∀ σ, va_D A (tc_cW ad cA σ)) {q : tc_S} : ∀ (n : Nat) {σ : tc_S} {l3 l4 l5 l6 l7 l8 : Int32} {H : Heap} {locs : List Loc} {ls : Array Slot} (h : m_XD_drawPlane_a16_75 n σ l3 l4 l5 l6 l7 l8 = some q) (hP : va_P D vwCl (tc_cW ad cA σ) H) (hS : va_S A s.heap H locs) (hl : lv_has ls 13 [(0, .ref (ad 5)), (1, .ref (ad 16)), (3, .int l3), (4, .int l4), (5, .int l5), (6, .int l6), (7, .int l7), (8, .int l8)]), W p l e (tc_R 2) s m args below meth c H locs 0 0 (MQ below (tc_Qv D (tc_cW ad cA q) A) args s 0 0 A) (F0 m 75 ls []) := by
  have C0 := C
  obtain ⟨hx, hb, hml, hown, ⟨hK, hN⟩, hr, hlk⟩ := C
  intro n
  induction n with
  | zero =>
    intro σ l3 l4 l5 l6 l7 l8 H locs ls h hP hS hl
    exact absurd h (by simp [m_XD_drawPlane_a16_75])
  | succ n ih =>
    intro σ l3 l4 l5 l6 l7 l8 H locs ls h hP hS hl
    unfold m_XD_drawPlane_a16_75 at h
    refine lv_iload hx hb dXD_drawPlane_75 (lv_at hl 7 rfl) ?_
    refine lv_bipush (v := 16) hx hb dXD_drawPlane_77 (by decide) ?_
    refine lv_icmp_ge (tgt := 184) hx hb dXD_drawPlane_79 (by decide) (fun hc => ?_) (fun hc => ?_)
    · have h := tc_ip hc h
      exact tc_crv C0 hP hS h dXD_drawPlane_184
    · have h := tc_in hc h
      refine lv_iload hx hb dXD_drawPlane_82 (lv_at hl 7 rfl) ?_
      refine lv_iconst (v := 4) hx hb dXD_drawPlane_84 (by decide) ?_
      refine lv_idiv hx hb dXD_drawPlane_85 (by decide) ?_
      refine lv_iload hx hb dXD_drawPlane_86 (lv_at hl 6 rfl) ?_
      refine lv_icmp_lt (tgt := 95) hx hb dXD_drawPlane_88 (by decide) (fun hc => ?_) (fun hc => ?_)
      · have h := tc_ip hc h
        refine lv_iconst (v := 0) hx hb dXD_drawPlane_95 (by decide) ?_
        exact w_XD_drawPlane_a16_96 C0 hJ (fun h hP hS hl => ih h hP hS hl) h hP hS (lv_sub hl [0, 1, 2, 3, 4, 5, 6, 7] rfl)
      · have h := tc_in hc h
        refine lv_iconst (v := 1) hx hb dXD_drawPlane_91 (by decide) ?_
        refine lv_goto (tgt := 96) hx hb dXD_drawPlane_92 (by decide) ?_
        exact w_XD_drawPlane_a16_96 C0 hJ (fun h hP hS hl => ih h hP hS hl) h hP hS (lv_sub hl [0, 1, 2, 3, 4, 5, 6, 7] rfl)
def m_XD_drawPlane_a16_70 (σ : tc_S) (l3 l4 l5 l6 k0 : Int32) : Option (tc_S) := (m_XD_drawPlane_a16_75 2000 σ l3 l4 l5 l6 k0 0)
set_option maxHeartbeats 4000000 in
set_option maxRecDepth 100000 in
theorem w_XD_drawPlane_a16_70 (C : tc_C p s m args meth c RXD cXD_drawPlane 13 none D cA) (hJ : ∀ σ, va_D A (tc_cW ad cA σ)) {q : tc_S} {σ : tc_S} {l3 l4 l5 l6 k0 : Int32} {H : Heap} {locs : List Loc} {ls : Array Slot} (h : m_XD_drawPlane_a16_70 σ l3 l4 l5 l6 k0 = some q) (hP : va_P D vwCl (tc_cW ad cA σ) H) (hS : va_S A s.heap H locs) (hl : lv_has ls 13 [(0, .ref (ad 5)), (1, .ref (ad 16)), (3, .int l3), (4, .int l4), (5, .int l5), (6, .int l6)]) : W p l e (tc_R 2) s m args below meth c H locs 0 0 (MQ below (tc_Qv D (tc_cW ad cA q) A) args s 0 0 A) (F0 m 70 ls [.int k0]) := by
  have C0 := C
  obtain ⟨hx, hb, hml, hown, ⟨hK, hN⟩, hr, hlk⟩ := C
  unfold m_XD_drawPlane_a16_70 at h
  refine lv_istore (lv' := [(7, .int k0), (0, .ref (ad 5)), (1, .ref (ad 16)), (3, .int l3), (4, .int l4), (5, .int l5), (6, .int l6)]) hx hb dXD_drawPlane_70 hl (by decide) rfl (fun ls hl => ?_)
  refine lv_iconst (v := 0) hx hb dXD_drawPlane_72 (by decide) ?_
  refine lv_istore (lv' := [(8, .int 0), (7, .int k0), (0, .ref (ad 5)), (1, .ref (ad 16)), (3, .int l3), (4, .int l4), (5, .int l5), (6, .int l6)]) hx hb dXD_drawPlane_73 hl (by decide) rfl (fun ls hl => ?_)
  exact w_XD_drawPlane_a16_75 C0 hJ _ h hP hS (lv_sub hl [2, 3, 4, 5, 6, 7, 1, 0] rfl)
def m_XD_drawPlane_a16 (σ : tc_S) (l2 l3 : Int32) : Option (tc_S) := (tc_gd (2 + (2 * l2)) 16 (tc_gd 13 16 ((m_XP_vramWord σ ((((tc_ga σ 5 13) &&& 31) * 16) + l2)).bind (fun q37 => (tc_gd l2 2 (if l2 = 0 then (tc_gd 3 16 (m_XD_drawPlane_a16_70 q37.2 l3 (((tc_ga σ 5 (2 + (2 * l2))) &&& 15) * 32) q37.1 (tc_ga q37.2 4 l2) ((tc_ga q37.2 5 3) &&& 7))) else (m_XD_drawPlane_a16_70 q37.2 l3 (((tc_ga σ 5 (2 + (2 * l2))) &&& 15) * 32) q37.1 (tc_ga q37.2 4 l2) 0)))))))
set_option maxHeartbeats 4000000 in
set_option maxRecDepth 100000 in
theorem w_XD_drawPlane_a16_0 (C : tc_C p s m args meth c RXD cXD_drawPlane 13 none D cA) (hJ : ∀ σ, va_D A (tc_cW ad cA σ)) {q : tc_S} {σ : tc_S} {l2 l3 : Int32} {H : Heap} {locs : List Loc} {ls : Array Slot} (h : m_XD_drawPlane_a16 σ l2 l3 = some q) (hP : va_P D vwCl (tc_cW ad cA σ) H) (hS : va_S A s.heap H locs) (hl : lv_has ls 13 [(0, .ref (ad 5)), (1, .ref (ad 16)), (2, .int l2), (3, .int l3)]) : W p l e (tc_R 2) s m args below meth c H locs 0 0 (MQ below (tc_Qv D (tc_cW ad cA q) A) args s 0 0 A) (F0 m 0 ls []) := by
  have C0 := C
  obtain ⟨hx, hb, hml, hown, ⟨hK, hN⟩, hr, hlk⟩ := C
  unfold m_XD_drawPlane_a16 at h
  refine lv_aload_n hx hb dXD_drawPlane_0 rfl (lv_at hl 0 rfl) ?_
  refine tc_cr_XD_registers C0 hP (tc_use hN tw_126) dXD_drawPlane_1 ?_
  refine lv_iconst (v := 2) hx hb dXD_drawPlane_4 (by decide) ?_
  refine lv_iconst (v := 2) hx hb dXD_drawPlane_5 (by decide) ?_
  refine lv_iload_n hx hb dXD_drawPlane_6 rfl (lv_at hl 2 rfl) ?_
  refine lv_imul hx hb dXD_drawPlane_7 ?_
  refine lv_iadd hx hb dXD_drawPlane_8 ?_
  obtain ⟨hi, h⟩ := tc_gd_some h
  refine tc_cld14 C0 hP hi dXD_drawPlane_9 ?_
  refine lv_bipush (v := 15) hx hb dXD_drawPlane_10 (by decide) ?_
  refine lv_iand hx hb dXD_drawPlane_12 ?_
  refine lv_bipush (v := 32) hx hb dXD_drawPlane_13 (by decide) ?_
  refine lv_imul hx hb dXD_drawPlane_15 ?_
  refine lv_istore (lv' := [(4, .int (((tc_ga σ 5 (2 + (2 * l2))) &&& 15) * 32)), (0, .ref (ad 5)), (1, .ref (ad 16)), (2, .int l2), (3, .int l3)]) hx hb dXD_drawPlane_16 hl (by decide) rfl (fun ls hl => ?_)
  refine lv_aload_n hx hb dXD_drawPlane_18 rfl (lv_at hl 1 rfl) ?_
  refine tc_cr_XD_picture C0 hP (tc_use hN tw_125) dXD_drawPlane_19 ?_
  refine lv_aload_n hx hb dXD_drawPlane_22 rfl (lv_at hl 1 rfl) ?_
  refine tc_cr_XD_registers C0 hP (tc_use hN tw_126) dXD_drawPlane_23 ?_
  refine lv_bipush (v := 13) hx hb dXD_drawPlane_26 (by decide) ?_
  obtain ⟨hi, h⟩ := tc_gd_some h
  refine tc_cld14 C0 hP hi dXD_drawPlane_28 ?_
  refine lv_bipush (v := 31) hx hb dXD_drawPlane_29 (by decide) ?_
  refine lv_iand hx hb dXD_drawPlane_31 ?_
  refine lv_bipush (v := 16) hx hb dXD_drawPlane_32 (by decide) ?_
  refine lv_imul hx hb dXD_drawPlane_34 ?_
  refine lv_iload_n hx hb dXD_drawPlane_35 rfl (lv_at hl 3 rfl) ?_
  refine lv_iadd hx hb dXD_drawPlane_36 ?_
  obtain ⟨q37, e37, h⟩ := tc_bd_some h
  refine tc_cVi (As := [.int ((((tc_ga σ 5 13) &&& 31) * 16) + l2)]) (rest := []) C0 (k_XP_vramWord hJ e37) tv_XD_47 (by decide) (by decide) hP hS hl 3 rfl rfl (Nat.le_of_ble_eq_true rfl) dXD_drawPlane_37 rfl (fun H locs hP hS => ?_)
  refine lv_istore (lv' := [(5, .int q37.1), (4, .int (((tc_ga σ 5 (2 + (2 * l2))) &&& 15) * 32)), (0, .ref (ad 5)), (1, .ref (ad 16)), (2, .int l2), (3, .int l3)]) hx hb dXD_drawPlane_40 hl (by decide) rfl (fun ls hl => ?_)
  refine lv_aload_n hx hb dXD_drawPlane_42 rfl (lv_at hl 2 rfl) ?_
  refine tc_cr_XD_picture C0 hP (tc_use hN tw_125) dXD_drawPlane_43 ?_
  refine tc_crN_XP_vsram C0 hP (tc_use hN tw_81) dXD_drawPlane_46 ?_
  refine lv_iload_n hx hb dXD_drawPlane_49 rfl (lv_at hl 4 rfl) ?_
  obtain ⟨hi, h⟩ := tc_gd_some h
  refine tc_cld13 C0 hP hi dXD_drawPlane_50 ?_
  refine lv_istore (lv' := [(6, .int (tc_ga q37.2 4 l2)), (5, .int q37.1), (4, .int (((tc_ga σ 5 (2 + (2 * l2))) &&& 15) * 32)), (0, .ref (ad 5)), (1, .ref (ad 16)), (2, .int l2), (3, .int l3)]) hx hb dXD_drawPlane_51 hl (by decide) rfl (fun ls hl => ?_)
  refine lv_iload_n hx hb dXD_drawPlane_53 rfl (lv_at hl 5 rfl) ?_
  refine lv_if_ne (tgt := 69) hx hb dXD_drawPlane_54 (by decide) (fun hc => ?_) (fun hc => ?_)
  · have h := tc_in hc h
    refine lv_iconst (v := 0) hx hb dXD_drawPlane_69 (by decide) ?_
    exact w_XD_drawPlane_a16_70 C0 hJ h hP hS (lv_sub hl [3, 4, 6, 2, 1, 0] rfl)
  · have h := tc_ip hc h
    refine lv_aload_n hx hb dXD_drawPlane_57 rfl (lv_at hl 3 rfl) ?_
    refine tc_cr_XD_registers C0 hP (tc_use hN tw_126) dXD_drawPlane_58 ?_
    refine lv_iconst (v := 3) hx hb dXD_drawPlane_61 (by decide) ?_
    obtain ⟨hi, h⟩ := tc_gd_some h
    refine tc_cld14 C0 hP hi dXD_drawPlane_62 ?_
    refine lv_bipush (v := 7) hx hb dXD_drawPlane_63 (by decide) ?_
    refine lv_iand hx hb dXD_drawPlane_65 ?_
    refine lv_goto (tgt := 70) hx hb dXD_drawPlane_66 (by decide) ?_
    exact w_XD_drawPlane_a16_70 C0 hJ h hP hS (lv_sub hl [3, 4, 6, 2, 1, 0] rfl)
theorem k_XD_drawPlane_a16 (hJ : ∀ σ, va_D A (tc_cW ad cA σ)) {σ : tc_S} {l2 l3 : Int32} {q : tc_S} (h : m_XD_drawPlane_a16 σ l2 l3 = some q) : Met l yXD_drawPlane [.code yXD_drawPlane cXD_drawPlane 13 none] (tc_R 2) (tc_Pc D cA (tc_cW ad cA σ) [.ref (ad 5), .ref (ad 16), .int l2, .int l3]) (tc_Qv D (tc_cW ad cA q) A) 0 0 A :=
  tc_met (by decide) (Nat.le_of_ble_eq_true rfl) (fun _ _ _ _ _ _ _ C hP _ hl => w_XD_drawPlane_a16_0 C hJ h hP va_S.rf hl)
def m_XD_drawPlane_a17_134 (Z : tc_S → Int32 → Int32 → Int32 → Int32 → Int32 → Int32 → Option (tc_S)) (σ : tc_S) (l3 l4 l5 l6 l7 l8 l10 k0 : Int32) : Option (tc_S) := ((m_XP_vramWord σ ((l4 + ((k0 / 4) * 8)) + (l10 / 4))).bind (fun q155 => ((m_XD_patternDot q155.2 q155.1 (l10 &&& 3) (k0 &&& 3)).bind (fun q174 => (tc_gd l8 16 (Z (tc_sa q174.2 10 l8 q174.1) l3 l4 l5 l6 l7 (l8 + 1)))))))
set_option maxHeartbeats 4000000 in
set_option maxRecDepth 100000 in
theorem w_XD_drawPlane_a17_134 (C : tc_C p s m args meth c RXD cXD_drawPlane 13 none D cA) (hJ : ∀ σ, va_D A (tc_cW ad cA σ)) {q : tc_S} {Z : tc_S → Int32 → Int32 → Int32 → Int32 → Int32 → Int32 → Option (tc_S)} (hZ : ∀ {σ : tc_S} {l3 l4 l5 l6 l7 l8 : Int32} {H : Heap} {locs : List Loc} {ls : Array Slot}, Z σ l3 l4 l5 l6 l7 l8 = some q → va_P D vwCl (tc_cW ad cA σ) H → va_S A s.heap H locs → lv_has ls 13 [(0, .ref (ad 5)), (1, .ref (ad 17)), (3, .int l3), (4, .int l4), (5, .int l5), (6, .int l6), (7, .int l7), (8, .int l8)] → W p l e (tc_R 2) s m args below meth c H locs 0 0 (MQ below (tc_Qv D (tc_cW ad cA q) A) args s 0 0 A) (F0 m 75 ls [])) {σ : tc_S} {l3 l4 l5 l6 l7 l8 l10 k0 : Int32} {H : Heap} {locs : List Loc} {ls : Array Slot} (h : m_XD_drawPlane_a17_134 Z σ l3 l4 l5 l6 l7 l8 l10 k0 = some q) (hP : va_P D vwCl (tc_cW ad cA σ) H) (hS : va_S A s.heap H locs) (hl : lv_has ls 13 [(0, .ref (ad 5)), (1, .ref (ad 17)), (3, .int l3), (4, .int l4), (5, .int l5), (6, .int l6), (7, .int l7), (8, .int l8), (10, .int l10)]) : W p l e (tc_R 2) s m args below meth c H locs 0 0 (MQ below (tc_Qv D (tc_cW ad cA q) A) args s 0 0 A) (F0 m 134 ls [.int k0]) := by
  have C0 := C
  obtain ⟨hx, hb, hml, hown, ⟨hK, hN⟩, hr, hlk⟩ := C
  unfold m_XD_drawPlane_a17_134 at h
  refine lv_istore (lv' := [(11, .int k0), (0, .ref (ad 5)), (1, .ref (ad 17)), (3, .int l3), (4, .int l4), (5, .int l5), (6, .int l6), (7, .int l7), (8, .int l8), (10, .int l10)]) hx hb dXD_drawPlane_134 hl (by decide) rfl (fun ls hl => ?_)
  refine lv_aload_n hx hb dXD_drawPlane_136 rfl (lv_at hl 1 rfl) ?_
  refine tc_cr_XD_picture C0 hP (tc_use hN tw_125) dXD_drawPlane_137 ?_
  refine lv_iload hx hb dXD_drawPlane_140 (lv_at hl 4 rfl) ?_
  refine lv_iload hx hb dXD_drawPlane_142 (lv_at hl 0 rfl) ?_
  refine lv_iconst (v := 4) hx hb dXD_drawPlane_144 (by decide) ?_
  refine lv_idiv hx hb dXD_drawPlane_145 (by decide) ?_
  refine lv_bipush (v := 8) hx hb dXD_drawPlane_146 (by decide) ?_
  refine lv_imul hx hb dXD_drawPlane_148 ?_
  refine lv_iadd hx hb dXD_drawPlane_149 ?_
  refine lv_iload hx hb dXD_drawPlane_150 (lv_at hl 9 rfl) ?_
  refine lv_iconst (v := 4) hx hb dXD_drawPlane_152 (by decide) ?_
  refine lv_idiv hx hb dXD_drawPlane_153 (by decide) ?_
  refine lv_iadd hx hb dXD_drawPlane_154 ?_
  obtain ⟨q155, e155, h⟩ := tc_bd_some h
  refine tc_cVi (As := [.int ((l4 + ((k0 / 4) * 8)) + (l10 / 4))]) (rest := []) C0 (k_XP_vramWord hJ e155) tv_XD_47 (by decide) (by decide) hP hS hl 3 rfl rfl (Nat.le_of_ble_eq_true rfl) dXD_drawPlane_155 rfl (fun H locs hP hS => ?_)
  refine lv_istore (lv' := [(12, .int q155.1), (11, .int k0), (0, .ref (ad 5)), (1, .ref (ad 17)), (3, .int l3), (4, .int l4), (5, .int l5), (6, .int l6), (7, .int l7), (8, .int l8), (10, .int l10)]) hx hb dXD_drawPlane_158 hl (by decide) rfl (fun ls hl => ?_)
  refine lv_aload_n hx hb dXD_drawPlane_160 rfl (lv_at hl 3 rfl) ?_
  refine lv_iload hx hb dXD_drawPlane_161 (lv_at hl 9 rfl) ?_
  refine lv_aload_n hx hb dXD_drawPlane_163 rfl (lv_at hl 2 rfl) ?_
  refine lv_iload hx hb dXD_drawPlane_164 (lv_at hl 0 rfl) ?_
  refine lv_iload hx hb dXD_drawPlane_166 (lv_at hl 10 rfl) ?_
  refine lv_iconst (v := 3) hx hb dXD_drawPlane_168 (by decide) ?_
  refine lv_iand hx hb dXD_drawPlane_169 ?_
  refine lv_iload hx hb dXD_drawPlane_170 (lv_at hl 1 rfl) ?_
  refine lv_iconst (v := 3) hx hb dXD_drawPlane_172 (by decide) ?_
  refine lv_iand hx hb dXD_drawPlane_173 ?_
  obtain ⟨q174, e174, h⟩ := tc_bd_some h
  refine tc_cVi (As := [.int q155.1, .int (l10 &&& 3), .int (k0 &&& 3)]) (rest := [.int l8, .ref (ad 17)]) C0 (k_XD_patternDot hJ e174) tv_XD_54 (by decide) (by decide) hP hS hl 5 rfl rfl (Nat.le_of_ble_eq_true rfl) dXD_drawPlane_174 rfl (fun H locs hP hS => ?_)
  obtain ⟨hi, h⟩ := tc_gd_some h
  refine tc_cst17 C0 hJ hP hS hi dXD_drawPlane_177 (fun H locs hP hS => ?_)
  refine lv_iinc (k := 9) (v := (l8 + 1)) (lv' := [(8, .int (l8 + 1)), (12, .int q155.1), (11, .int k0), (0, .ref (ad 5)), (1, .ref (ad 17)), (3, .int l3), (4, .int l4), (5, .int l5), (6, .int l6), (7, .int l7), (10, .int l10)]) hx hb dXD_drawPlane_178 hl rfl rfl (by decide) rfl (fun ls hl => ?_)
  refine lv_goto (tgt := 75) hx hb dXD_drawPlane_181 (by decide) ?_
  exact hZ h hP hS (lv_sub hl [3, 4, 5, 6, 7, 8, 9, 0] rfl)
def m_XD_drawPlane_a17_116 (Z : tc_S → Int32 → Int32 → Int32 → Int32 → Int32 → Int32 → Option (tc_S)) (σ : tc_S) (l3 l4 l5 l6 l7 l8 l9 k0 : Int32) : Option (tc_S) := (if l9 = 0 then (m_XD_drawPlane_a17_134 Z σ l3 l4 l5 l6 l7 l8 k0 l3) else (m_XD_drawPlane_a17_134 Z σ l3 l4 l5 l6 l7 l8 k0 ((l3 + l6) &&& 15)))
set_option maxHeartbeats 4000000 in
set_option maxRecDepth 100000 in
theorem w_XD_drawPlane_a17_116 (C : tc_C p s m args meth c RXD cXD_drawPlane 13 none D cA) (hJ : ∀ σ, va_D A (tc_cW ad cA σ)) {q : tc_S} {Z : tc_S → Int32 → Int32 → Int32 → Int32 → Int32 → Int32 → Option (tc_S)} (hZ : ∀ {σ : tc_S} {l3 l4 l5 l6 l7 l8 : Int32} {H : Heap} {locs : List Loc} {ls : Array Slot}, Z σ l3 l4 l5 l6 l7 l8 = some q → va_P D vwCl (tc_cW ad cA σ) H → va_S A s.heap H locs → lv_has ls 13 [(0, .ref (ad 5)), (1, .ref (ad 17)), (3, .int l3), (4, .int l4), (5, .int l5), (6, .int l6), (7, .int l7), (8, .int l8)] → W p l e (tc_R 2) s m args below meth c H locs 0 0 (MQ below (tc_Qv D (tc_cW ad cA q) A) args s 0 0 A) (F0 m 75 ls [])) {σ : tc_S} {l3 l4 l5 l6 l7 l8 l9 k0 : Int32} {H : Heap} {locs : List Loc} {ls : Array Slot} (h : m_XD_drawPlane_a17_116 Z σ l3 l4 l5 l6 l7 l8 l9 k0 = some q) (hP : va_P D vwCl (tc_cW ad cA σ) H) (hS : va_S A s.heap H locs) (hl : lv_has ls 13 [(0, .ref (ad 5)), (1, .ref (ad 17)), (3, .int l3), (4, .int l4), (5, .int l5), (6, .int l6), (7, .int l7), (8, .int l8), (9, .int l9)]) : W p l e (tc_R 2) s m args below meth c H locs 0 0 (MQ below (tc_Qv D (tc_cW ad cA q) A) args s 0 0 A) (F0 m 116 ls [.int k0]) := by
  have C0 := C
  obtain ⟨hx, hb, hml, hown, ⟨hK, hN⟩, hr, hlk⟩ := C
  unfold m_XD_drawPlane_a17_116 at h
  refine lv_istore (lv' := [(10, .int k0), (0, .ref (ad 5)), (1, .ref (ad 17)), (3, .int l3), (4, .int l4), (5, .int l5), (6, .int l6), (7, .int l7), (8, .int l8), (9, .int l9)]) hx hb dXD_drawPlane_116 hl (by decide) rfl (fun ls hl => ?_)
  refine lv_iload hx hb dXD_drawPlane_118 (lv_at hl 9 rfl) ?_
  refine lv_if_eq (tgt := 133) hx hb dXD_drawPlane_120 (by decide) (fun hc => ?_) (fun hc => ?_)
  · have h := tc_ip hc h
    refine lv_iload_n hx hb dXD_drawPlane_133 rfl (lv_at hl 3 rfl) ?_
    exact w_XD_drawPlane_a17_134 C0 hJ hZ h hP hS (lv_sub hl [1, 2, 3, 4, 5, 6, 7, 8, 0] rfl)
  · have h := tc_in hc h
    refine lv_iload_n hx hb dXD_drawPlane_123 rfl (lv_at hl 3 rfl) ?_
    refine lv_iload hx hb dXD_drawPlane_124 (lv_at hl 6 rfl) ?_
    refine lv_iadd hx hb dXD_drawPlane_126 ?_
    refine lv_bipush (v := 15) hx hb dXD_drawPlane_127 (by decide) ?_
    refine lv_iand hx hb dXD_drawPlane_129 ?_
    refine lv_goto (tgt := 134) hx hb dXD_drawPlane_130 (by decide) ?_
    exact w_XD_drawPlane_a17_134 C0 hJ hZ h hP hS (lv_sub hl [1, 2, 3, 4, 5, 6, 7, 8, 0] rfl)
def m_XD_drawPlane_a17_96 (Z : tc_S → Int32 → Int32 → Int32 → Int32 → Int32 → Int32 → Option (tc_S)) (σ : tc_S) (l3 l4 l5 l6 l7 l8 k0 : Int32) : Option (tc_S) := (if k0 = 0 then (m_XD_drawPlane_a17_116 Z σ l3 l4 l5 l6 l7 l8 k0 l8) else (m_XD_drawPlane_a17_116 Z σ l3 l4 l5 l6 l7 l8 k0 ((l8 - l5) &&& 31)))
set_option maxHeartbeats 4000000 in
set_option maxRecDepth 100000 in
theorem w_XD_drawPlane_a17_96 (C : tc_C p s m args meth c RXD cXD_drawPlane 13 none D cA) (hJ : ∀ σ, va_D A (tc_cW ad cA σ)) {q : tc_S} {Z : tc_S → Int32 → Int32 → Int32 → Int32 → Int32 → Int32 → Option (tc_S)} (hZ : ∀ {σ : tc_S} {l3 l4 l5 l6 l7 l8 : Int32} {H : Heap} {locs : List Loc} {ls : Array Slot}, Z σ l3 l4 l5 l6 l7 l8 = some q → va_P D vwCl (tc_cW ad cA σ) H → va_S A s.heap H locs → lv_has ls 13 [(0, .ref (ad 5)), (1, .ref (ad 17)), (3, .int l3), (4, .int l4), (5, .int l5), (6, .int l6), (7, .int l7), (8, .int l8)] → W p l e (tc_R 2) s m args below meth c H locs 0 0 (MQ below (tc_Qv D (tc_cW ad cA q) A) args s 0 0 A) (F0 m 75 ls [])) {σ : tc_S} {l3 l4 l5 l6 l7 l8 k0 : Int32} {H : Heap} {locs : List Loc} {ls : Array Slot} (h : m_XD_drawPlane_a17_96 Z σ l3 l4 l5 l6 l7 l8 k0 = some q) (hP : va_P D vwCl (tc_cW ad cA σ) H) (hS : va_S A s.heap H locs) (hl : lv_has ls 13 [(0, .ref (ad 5)), (1, .ref (ad 17)), (3, .int l3), (4, .int l4), (5, .int l5), (6, .int l6), (7, .int l7), (8, .int l8)]) : W p l e (tc_R 2) s m args below meth c H locs 0 0 (MQ below (tc_Qv D (tc_cW ad cA q) A) args s 0 0 A) (F0 m 96 ls [.int k0]) := by
  have C0 := C
  obtain ⟨hx, hb, hml, hown, ⟨hK, hN⟩, hr, hlk⟩ := C
  unfold m_XD_drawPlane_a17_96 at h
  refine lv_istore (lv' := [(9, .int k0), (0, .ref (ad 5)), (1, .ref (ad 17)), (3, .int l3), (4, .int l4), (5, .int l5), (6, .int l6), (7, .int l7), (8, .int l8)]) hx hb dXD_drawPlane_96 hl (by decide) rfl (fun ls hl => ?_)
  refine lv_iload hx hb dXD_drawPlane_98 (lv_at hl 0 rfl) ?_
  refine lv_if_eq (tgt := 114) hx hb dXD_drawPlane_100 (by decide) (fun hc => ?_) (fun hc => ?_)
  · have h := tc_ip hc h
    refine lv_iload hx hb dXD_drawPlane_114 (lv_at hl 8 rfl) ?_
    exact w_XD_drawPlane_a17_116 C0 hJ hZ h hP hS (lv_sub hl [1, 2, 3, 4, 5, 6, 7, 8, 0] rfl)
  · have h := tc_in hc h
    refine lv_iload hx hb dXD_drawPlane_103 (lv_at hl 8 rfl) ?_
    refine lv_iload hx hb dXD_drawPlane_105 (lv_at hl 5 rfl) ?_
    refine lv_isub hx hb dXD_drawPlane_107 ?_
    refine lv_bipush (v := 31) hx hb dXD_drawPlane_108 (by decide) ?_
    refine lv_iand hx hb dXD_drawPlane_110 ?_
    refine lv_goto (tgt := 116) hx hb dXD_drawPlane_111 (by decide) ?_
    exact w_XD_drawPlane_a17_116 C0 hJ hZ h hP hS (lv_sub hl [1, 2, 3, 4, 5, 6, 7, 8, 0] rfl)
def m_XD_drawPlane_a17_75 : Nat → tc_S → Int32 → Int32 → Int32 → Int32 → Int32 → Int32 → Option (tc_S)
  | 0, _, _, _, _, _, _, _ => none
  | n + 1, σ, l3, l4, l5, l6, l7, l8 => (if 16 ≤ l8 then (some σ) else (if (l8 / 4) < l7 then (m_XD_drawPlane_a17_96 (m_XD_drawPlane_a17_75 n) σ l3 l4 l5 l6 l7 l8 0) else (m_XD_drawPlane_a17_96 (m_XD_drawPlane_a17_75 n) σ l3 l4 l5 l6 l7 l8 1)))
set_option maxHeartbeats 4000000 in
set_option maxRecDepth 100000 in
theorem w_XD_drawPlane_a17_75 (C : tc_C p s m args meth c RXD cXD_drawPlane 13 none D cA) (hJ : ∀ σ, va_D A (tc_cW ad cA σ)) {q : tc_S} : ∀ (n : Nat) {σ : tc_S} {l3 l4 l5 l6 l7 l8 : Int32} {H : Heap} {locs : List Loc} {ls : Array Slot} (h : m_XD_drawPlane_a17_75 n σ l3 l4 l5 l6 l7 l8 = some q) (hP : va_P D vwCl (tc_cW ad cA σ) H) (hS : va_S A s.heap H locs) (hl : lv_has ls 13 [(0, .ref (ad 5)), (1, .ref (ad 17)), (3, .int l3), (4, .int l4), (5, .int l5), (6, .int l6), (7, .int l7), (8, .int l8)]), W p l e (tc_R 2) s m args below meth c H locs 0 0 (MQ below (tc_Qv D (tc_cW ad cA q) A) args s 0 0 A) (F0 m 75 ls []) := by
  have C0 := C
  obtain ⟨hx, hb, hml, hown, ⟨hK, hN⟩, hr, hlk⟩ := C
  intro n
  induction n with
  | zero =>
    intro σ l3 l4 l5 l6 l7 l8 H locs ls h hP hS hl
    exact absurd h (by simp [m_XD_drawPlane_a17_75])
  | succ n ih =>
    intro σ l3 l4 l5 l6 l7 l8 H locs ls h hP hS hl
    unfold m_XD_drawPlane_a17_75 at h
    refine lv_iload hx hb dXD_drawPlane_75 (lv_at hl 7 rfl) ?_
    refine lv_bipush (v := 16) hx hb dXD_drawPlane_77 (by decide) ?_
    refine lv_icmp_ge (tgt := 184) hx hb dXD_drawPlane_79 (by decide) (fun hc => ?_) (fun hc => ?_)
    · have h := tc_ip hc h
      exact tc_crv C0 hP hS h dXD_drawPlane_184
    · have h := tc_in hc h
      refine lv_iload hx hb dXD_drawPlane_82 (lv_at hl 7 rfl) ?_
      refine lv_iconst (v := 4) hx hb dXD_drawPlane_84 (by decide) ?_
      refine lv_idiv hx hb dXD_drawPlane_85 (by decide) ?_
      refine lv_iload hx hb dXD_drawPlane_86 (lv_at hl 6 rfl) ?_
      refine lv_icmp_lt (tgt := 95) hx hb dXD_drawPlane_88 (by decide) (fun hc => ?_) (fun hc => ?_)
      · have h := tc_ip hc h
        refine lv_iconst (v := 0) hx hb dXD_drawPlane_95 (by decide) ?_
        exact w_XD_drawPlane_a17_96 C0 hJ (fun h hP hS hl => ih h hP hS hl) h hP hS (lv_sub hl [0, 1, 2, 3, 4, 5, 6, 7] rfl)
      · have h := tc_in hc h
        refine lv_iconst (v := 1) hx hb dXD_drawPlane_91 (by decide) ?_
        refine lv_goto (tgt := 96) hx hb dXD_drawPlane_92 (by decide) ?_
        exact w_XD_drawPlane_a17_96 C0 hJ (fun h hP hS hl => ih h hP hS hl) h hP hS (lv_sub hl [0, 1, 2, 3, 4, 5, 6, 7] rfl)
def m_XD_drawPlane_a17_70 (σ : tc_S) (l3 l4 l5 l6 k0 : Int32) : Option (tc_S) := (m_XD_drawPlane_a17_75 2000 σ l3 l4 l5 l6 k0 0)
set_option maxHeartbeats 4000000 in
set_option maxRecDepth 100000 in
theorem w_XD_drawPlane_a17_70 (C : tc_C p s m args meth c RXD cXD_drawPlane 13 none D cA) (hJ : ∀ σ, va_D A (tc_cW ad cA σ)) {q : tc_S} {σ : tc_S} {l3 l4 l5 l6 k0 : Int32} {H : Heap} {locs : List Loc} {ls : Array Slot} (h : m_XD_drawPlane_a17_70 σ l3 l4 l5 l6 k0 = some q) (hP : va_P D vwCl (tc_cW ad cA σ) H) (hS : va_S A s.heap H locs) (hl : lv_has ls 13 [(0, .ref (ad 5)), (1, .ref (ad 17)), (3, .int l3), (4, .int l4), (5, .int l5), (6, .int l6)]) : W p l e (tc_R 2) s m args below meth c H locs 0 0 (MQ below (tc_Qv D (tc_cW ad cA q) A) args s 0 0 A) (F0 m 70 ls [.int k0]) := by
  have C0 := C
  obtain ⟨hx, hb, hml, hown, ⟨hK, hN⟩, hr, hlk⟩ := C
  unfold m_XD_drawPlane_a17_70 at h
  refine lv_istore (lv' := [(7, .int k0), (0, .ref (ad 5)), (1, .ref (ad 17)), (3, .int l3), (4, .int l4), (5, .int l5), (6, .int l6)]) hx hb dXD_drawPlane_70 hl (by decide) rfl (fun ls hl => ?_)
  refine lv_iconst (v := 0) hx hb dXD_drawPlane_72 (by decide) ?_
  refine lv_istore (lv' := [(8, .int 0), (7, .int k0), (0, .ref (ad 5)), (1, .ref (ad 17)), (3, .int l3), (4, .int l4), (5, .int l5), (6, .int l6)]) hx hb dXD_drawPlane_73 hl (by decide) rfl (fun ls hl => ?_)
  exact w_XD_drawPlane_a17_75 C0 hJ _ h hP hS (lv_sub hl [2, 3, 4, 5, 6, 7, 1, 0] rfl)
def m_XD_drawPlane_a17 (σ : tc_S) (l2 l3 : Int32) : Option (tc_S) := (tc_gd (2 + (2 * l2)) 16 (tc_gd 13 16 ((m_XP_vramWord σ ((((tc_ga σ 5 13) &&& 31) * 16) + l2)).bind (fun q37 => (tc_gd l2 2 (if l2 = 0 then (tc_gd 3 16 (m_XD_drawPlane_a17_70 q37.2 l3 (((tc_ga σ 5 (2 + (2 * l2))) &&& 15) * 32) q37.1 (tc_ga q37.2 4 l2) ((tc_ga q37.2 5 3) &&& 7))) else (m_XD_drawPlane_a17_70 q37.2 l3 (((tc_ga σ 5 (2 + (2 * l2))) &&& 15) * 32) q37.1 (tc_ga q37.2 4 l2) 0)))))))
set_option maxHeartbeats 4000000 in
set_option maxRecDepth 100000 in
theorem w_XD_drawPlane_a17_0 (C : tc_C p s m args meth c RXD cXD_drawPlane 13 none D cA) (hJ : ∀ σ, va_D A (tc_cW ad cA σ)) {q : tc_S} {σ : tc_S} {l2 l3 : Int32} {H : Heap} {locs : List Loc} {ls : Array Slot} (h : m_XD_drawPlane_a17 σ l2 l3 = some q) (hP : va_P D vwCl (tc_cW ad cA σ) H) (hS : va_S A s.heap H locs) (hl : lv_has ls 13 [(0, .ref (ad 5)), (1, .ref (ad 17)), (2, .int l2), (3, .int l3)]) : W p l e (tc_R 2) s m args below meth c H locs 0 0 (MQ below (tc_Qv D (tc_cW ad cA q) A) args s 0 0 A) (F0 m 0 ls []) := by
  have C0 := C
  obtain ⟨hx, hb, hml, hown, ⟨hK, hN⟩, hr, hlk⟩ := C
  unfold m_XD_drawPlane_a17 at h
  refine lv_aload_n hx hb dXD_drawPlane_0 rfl (lv_at hl 0 rfl) ?_
  refine tc_cr_XD_registers C0 hP (tc_use hN tw_126) dXD_drawPlane_1 ?_
  refine lv_iconst (v := 2) hx hb dXD_drawPlane_4 (by decide) ?_
  refine lv_iconst (v := 2) hx hb dXD_drawPlane_5 (by decide) ?_
  refine lv_iload_n hx hb dXD_drawPlane_6 rfl (lv_at hl 2 rfl) ?_
  refine lv_imul hx hb dXD_drawPlane_7 ?_
  refine lv_iadd hx hb dXD_drawPlane_8 ?_
  obtain ⟨hi, h⟩ := tc_gd_some h
  refine tc_cld14 C0 hP hi dXD_drawPlane_9 ?_
  refine lv_bipush (v := 15) hx hb dXD_drawPlane_10 (by decide) ?_
  refine lv_iand hx hb dXD_drawPlane_12 ?_
  refine lv_bipush (v := 32) hx hb dXD_drawPlane_13 (by decide) ?_
  refine lv_imul hx hb dXD_drawPlane_15 ?_
  refine lv_istore (lv' := [(4, .int (((tc_ga σ 5 (2 + (2 * l2))) &&& 15) * 32)), (0, .ref (ad 5)), (1, .ref (ad 17)), (2, .int l2), (3, .int l3)]) hx hb dXD_drawPlane_16 hl (by decide) rfl (fun ls hl => ?_)
  refine lv_aload_n hx hb dXD_drawPlane_18 rfl (lv_at hl 1 rfl) ?_
  refine tc_cr_XD_picture C0 hP (tc_use hN tw_125) dXD_drawPlane_19 ?_
  refine lv_aload_n hx hb dXD_drawPlane_22 rfl (lv_at hl 1 rfl) ?_
  refine tc_cr_XD_registers C0 hP (tc_use hN tw_126) dXD_drawPlane_23 ?_
  refine lv_bipush (v := 13) hx hb dXD_drawPlane_26 (by decide) ?_
  obtain ⟨hi, h⟩ := tc_gd_some h
  refine tc_cld14 C0 hP hi dXD_drawPlane_28 ?_
  refine lv_bipush (v := 31) hx hb dXD_drawPlane_29 (by decide) ?_
  refine lv_iand hx hb dXD_drawPlane_31 ?_
  refine lv_bipush (v := 16) hx hb dXD_drawPlane_32 (by decide) ?_
  refine lv_imul hx hb dXD_drawPlane_34 ?_
  refine lv_iload_n hx hb dXD_drawPlane_35 rfl (lv_at hl 3 rfl) ?_
  refine lv_iadd hx hb dXD_drawPlane_36 ?_
  obtain ⟨q37, e37, h⟩ := tc_bd_some h
  refine tc_cVi (As := [.int ((((tc_ga σ 5 13) &&& 31) * 16) + l2)]) (rest := []) C0 (k_XP_vramWord hJ e37) tv_XD_47 (by decide) (by decide) hP hS hl 3 rfl rfl (Nat.le_of_ble_eq_true rfl) dXD_drawPlane_37 rfl (fun H locs hP hS => ?_)
  refine lv_istore (lv' := [(5, .int q37.1), (4, .int (((tc_ga σ 5 (2 + (2 * l2))) &&& 15) * 32)), (0, .ref (ad 5)), (1, .ref (ad 17)), (2, .int l2), (3, .int l3)]) hx hb dXD_drawPlane_40 hl (by decide) rfl (fun ls hl => ?_)
  refine lv_aload_n hx hb dXD_drawPlane_42 rfl (lv_at hl 2 rfl) ?_
  refine tc_cr_XD_picture C0 hP (tc_use hN tw_125) dXD_drawPlane_43 ?_
  refine tc_crN_XP_vsram C0 hP (tc_use hN tw_81) dXD_drawPlane_46 ?_
  refine lv_iload_n hx hb dXD_drawPlane_49 rfl (lv_at hl 4 rfl) ?_
  obtain ⟨hi, h⟩ := tc_gd_some h
  refine tc_cld13 C0 hP hi dXD_drawPlane_50 ?_
  refine lv_istore (lv' := [(6, .int (tc_ga q37.2 4 l2)), (5, .int q37.1), (4, .int (((tc_ga σ 5 (2 + (2 * l2))) &&& 15) * 32)), (0, .ref (ad 5)), (1, .ref (ad 17)), (2, .int l2), (3, .int l3)]) hx hb dXD_drawPlane_51 hl (by decide) rfl (fun ls hl => ?_)
  refine lv_iload_n hx hb dXD_drawPlane_53 rfl (lv_at hl 5 rfl) ?_
  refine lv_if_ne (tgt := 69) hx hb dXD_drawPlane_54 (by decide) (fun hc => ?_) (fun hc => ?_)
  · have h := tc_in hc h
    refine lv_iconst (v := 0) hx hb dXD_drawPlane_69 (by decide) ?_
    exact w_XD_drawPlane_a17_70 C0 hJ h hP hS (lv_sub hl [3, 4, 6, 2, 1, 0] rfl)
  · have h := tc_ip hc h
    refine lv_aload_n hx hb dXD_drawPlane_57 rfl (lv_at hl 3 rfl) ?_
    refine tc_cr_XD_registers C0 hP (tc_use hN tw_126) dXD_drawPlane_58 ?_
    refine lv_iconst (v := 3) hx hb dXD_drawPlane_61 (by decide) ?_
    obtain ⟨hi, h⟩ := tc_gd_some h
    refine tc_cld14 C0 hP hi dXD_drawPlane_62 ?_
    refine lv_bipush (v := 7) hx hb dXD_drawPlane_63 (by decide) ?_
    refine lv_iand hx hb dXD_drawPlane_65 ?_
    refine lv_goto (tgt := 70) hx hb dXD_drawPlane_66 (by decide) ?_
    exact w_XD_drawPlane_a17_70 C0 hJ h hP hS (lv_sub hl [3, 4, 6, 2, 1, 0] rfl)
theorem k_XD_drawPlane_a17 (hJ : ∀ σ, va_D A (tc_cW ad cA σ)) {σ : tc_S} {l2 l3 : Int32} {q : tc_S} (h : m_XD_drawPlane_a17 σ l2 l3 = some q) : Met l yXD_drawPlane [.code yXD_drawPlane cXD_drawPlane 13 none] (tc_R 2) (tc_Pc D cA (tc_cW ad cA σ) [.ref (ad 5), .ref (ad 17), .int l2, .int l3]) (tc_Qv D (tc_cW ad cA q) A) 0 0 A :=
  tc_met (by decide) (Nat.le_of_ble_eq_true rfl) (fun _ _ _ _ _ _ _ C hP _ hl => w_XD_drawPlane_a17_0 C hJ h hP va_S.rf hl)
def m_XD_isOnLine_31 (σ : tc_S) (k0 : Int32) : Option (Int32 × tc_S) := (tc_gb k0 (some (k0, σ)))
set_option maxHeartbeats 4000000 in
set_option maxRecDepth 100000 in
theorem w_XD_isOnLine_31 (C : tc_C p s m args meth c RXD cXD_isOnLine 4 (some .boolean) D cA) (hJ : ∀ σ, va_D A (tc_cW ad cA σ)) {q : Int32 × tc_S} {σ : tc_S} {k0 : Int32} {H : Heap} {locs : List Loc} {ls : Array Slot} (h : m_XD_isOnLine_31 σ k0 = some q) (hP : va_P D vwCl (tc_cW ad cA σ) H) (hS : va_S A s.heap H locs) (hl : lv_has ls 4 []) : W p l e (tc_R 1) s m args below meth c H locs 0 0 (MQ below (tc_Qi D (tc_cW ad cA q.2) A q.1) args s 0 0 A) (F0 m 31 ls [.int k0]) := by
  have C0 := C
  obtain ⟨hx, hb, hml, hown, ⟨hK, hN⟩, hr, hlk⟩ := C
  unfold m_XD_isOnLine_31 at h
  obtain ⟨hz, h⟩ := tc_gb_some h
  exact tc_crz C0 hP hS hz h dXD_isOnLine_31
def m_XD_isOnLine_30 (σ : tc_S) : Option (Int32 × tc_S) := (m_XD_isOnLine_31 σ 0)
set_option maxHeartbeats 4000000 in
set_option maxRecDepth 100000 in
theorem w_XD_isOnLine_30 (C : tc_C p s m args meth c RXD cXD_isOnLine 4 (some .boolean) D cA) (hJ : ∀ σ, va_D A (tc_cW ad cA σ)) {q : Int32 × tc_S} {σ : tc_S} {H : Heap} {locs : List Loc} {ls : Array Slot} (h : m_XD_isOnLine_30 σ = some q) (hP : va_P D vwCl (tc_cW ad cA σ) H) (hS : va_S A s.heap H locs) (hl : lv_has ls 4 []) : W p l e (tc_R 1) s m args below meth c H locs 0 0 (MQ below (tc_Qi D (tc_cW ad cA q.2) A q.1) args s 0 0 A) (F0 m 30 ls []) := by
  have C0 := C
  obtain ⟨hx, hb, hml, hown, ⟨hK, hN⟩, hr, hlk⟩ := C
  unfold m_XD_isOnLine_30 at h
  refine lv_iconst (v := 0) hx hb dXD_isOnLine_30 (by decide) ?_
  exact w_XD_isOnLine_31 C0 hJ h hP hS (lv_sub hl [] rfl)
def m_XD_isOnLine (σ : tc_S) (l1 l2 : Int32) : Option (Int32 × tc_S) := ((m_XP_vramWord σ l1).bind (fun q9 => (if ((l2 + 16) - (q9.1 &&& 63)) < 0 then (m_XD_isOnLine_30 q9.2) else (if 4 ≤ ((l2 + 16) - (q9.1 &&& 63)) then (m_XD_isOnLine_30 q9.2) else (m_XD_isOnLine_31 q9.2 1)))))
set_option maxHeartbeats 4000000 in
set_option maxRecDepth 100000 in
theorem w_XD_isOnLine_0 (C : tc_C p s m args meth c RXD cXD_isOnLine 4 (some .boolean) D cA) (hJ : ∀ σ, va_D A (tc_cW ad cA σ)) {q : Int32 × tc_S} {σ : tc_S} {l1 l2 : Int32} {H : Heap} {locs : List Loc} {ls : Array Slot} (h : m_XD_isOnLine σ l1 l2 = some q) (hP : va_P D vwCl (tc_cW ad cA σ) H) (hS : va_S A s.heap H locs) (hl : lv_has ls 4 [(0, .ref (ad 5)), (1, .int l1), (2, .int l2)]) : W p l e (tc_R 1) s m args below meth c H locs 0 0 (MQ below (tc_Qi D (tc_cW ad cA q.2) A q.1) args s 0 0 A) (F0 m 0 ls []) := by
  have C0 := C
  obtain ⟨hx, hb, hml, hown, ⟨hK, hN⟩, hr, hlk⟩ := C
  unfold m_XD_isOnLine at h
  refine lv_iload_n hx hb dXD_isOnLine_0 rfl (lv_at hl 2 rfl) ?_
  refine lv_bipush (v := 16) hx hb dXD_isOnLine_1 (by decide) ?_
  refine lv_iadd hx hb dXD_isOnLine_3 ?_
  refine lv_aload_n hx hb dXD_isOnLine_4 rfl (lv_at hl 0 rfl) ?_
  refine tc_cr_XD_picture C0 hP (tc_use hN tw_125) dXD_isOnLine_5 ?_
  refine lv_iload_n hx hb dXD_isOnLine_8 rfl (lv_at hl 1 rfl) ?_
  obtain ⟨q9, e9, h⟩ := tc_bd_some h
  refine tc_cVi (As := [.int l1]) (rest := [.int (l2 + 16)]) C0 (k_XP_vramWord hJ e9) tv_XD_47 (by decide) (by decide) hP hS hl 3 rfl rfl (Nat.le_of_ble_eq_true rfl) dXD_isOnLine_9 rfl (fun H locs hP hS => ?_)
  refine lv_bipush (v := 63) hx hb dXD_isOnLine_12 (by decide) ?_
  refine lv_iand hx hb dXD_isOnLine_14 ?_
  refine lv_isub hx hb dXD_isOnLine_15 ?_
  refine lv_istore_n (lv' := [(3, .int ((l2 + 16) - (q9.1 &&& 63))), (0, .ref (ad 5)), (1, .int l1), (2, .int l2)]) hx hb dXD_isOnLine_16 rfl hl (by decide) rfl (fun ls hl => ?_)
  refine lv_iload_n hx hb dXD_isOnLine_17 rfl (lv_at hl 0 rfl) ?_
  refine lv_if_lt (tgt := 30) hx hb dXD_isOnLine_18 (by decide) (fun hc => ?_) (fun hc => ?_)
  · have h := tc_ip hc h
    exact w_XD_isOnLine_30 C0 hJ h hP hS (lv_sub hl [] rfl)
  · have h := tc_in hc h
    refine lv_iload_n hx hb dXD_isOnLine_21 rfl (lv_at hl 0 rfl) ?_
    refine lv_iconst (v := 4) hx hb dXD_isOnLine_22 (by decide) ?_
    refine lv_icmp_ge (tgt := 30) hx hb dXD_isOnLine_23 (by decide) (fun hc => ?_) (fun hc => ?_)
    · have h := tc_ip hc h
      exact w_XD_isOnLine_30 C0 hJ h hP hS (lv_sub hl [] rfl)
    · have h := tc_in hc h
      refine lv_iconst (v := 1) hx hb dXD_isOnLine_26 (by decide) ?_
      refine lv_goto (tgt := 31) hx hb dXD_isOnLine_27 (by decide) ?_
      exact w_XD_isOnLine_31 C0 hJ h hP hS (lv_sub hl [] rfl)
theorem k_XD_isOnLine (hJ : ∀ σ, va_D A (tc_cW ad cA σ)) {σ : tc_S} {l1 l2 : Int32} {q : Int32 × tc_S} (h : m_XD_isOnLine σ l1 l2 = some q) : Met l yXD_isOnLine [.code yXD_isOnLine cXD_isOnLine 4 (some .boolean)] (tc_R 1) (tc_Pc D cA (tc_cW ad cA σ) [.ref (ad 5), .int l1, .int l2]) (tc_Qi D (tc_cW ad cA q.2) A q.1) 0 0 A :=
  tc_met (by decide) (Nat.le_of_ble_eq_true rfl) (fun _ _ _ _ _ _ _ C hP _ hl => w_XD_isOnLine_0 C hJ h hP va_S.rf hl)
def m_XD_takeSprites_92 (Z : tc_S → Int32 → Int32 → Int32 → Int32 → Int32 → Option (Int32 × tc_S)) (σ : tc_S) (l1 l2 l3 l5 l6 : Int32) : Option (Int32 × tc_S) := ((m_XP_vramWord σ (l6 + 1)).bind (fun q100 => (if (q100.1 &&& 7) = 0 then (some (l3, q100.2)) else (Z q100.2 l1 l2 l3 (q100.1 &&& 7) (l5 + 1)))))
set_option maxHeartbeats 4000000 in
set_option maxRecDepth 100000 in
theorem w_XD_takeSprites_92 (C : tc_C p s m args meth c RXD cXD_takeSprites 7 (some .int) D cA) (hJ : ∀ σ, va_D A (tc_cW ad cA σ)) {q : Int32 × tc_S} {Z : tc_S → Int32 → Int32 → Int32 → Int32 → Int32 → Option (Int32 × tc_S)} (hZ : ∀ {σ : tc_S} {l1 l2 l3 l4 l5 : Int32} {H : Heap} {locs : List Loc} {ls : Array Slot}, Z σ l1 l2 l3 l4 l5 = some q → va_P D vwCl (tc_cW ad cA σ) H → va_S A s.heap H locs → lv_has ls 7 [(0, .ref (ad 5)), (1, .int l1), (2, .int l2), (3, .int l3), (4, .int l4), (5, .int l5)] → W p l e (tc_R 2) s m args below meth c H locs 0 0 (MQ below (tc_Qi D (tc_cW ad cA q.2) A q.1) args s 0 0 A) (F0 m 21 ls [])) {σ : tc_S} {l1 l2 l3 l5 l6 : Int32} {H : Heap} {locs : List Loc} {ls : Array Slot} (h : m_XD_takeSprites_92 Z σ l1 l2 l3 l5 l6 = some q) (hP : va_P D vwCl (tc_cW ad cA σ) H) (hS : va_S A s.heap H locs) (hl : lv_has ls 7 [(0, .ref (ad 5)), (1, .int l1), (2, .int l2), (3, .int l3), (5, .int l5), (6, .int l6)]) : W p l e (tc_R 2) s m args below meth c H locs 0 0 (MQ below (tc_Qi D (tc_cW ad cA q.2) A q.1) args s 0 0 A) (F0 m 92 ls []) := by
  have C0 := C
  obtain ⟨hx, hb, hml, hown, ⟨hK, hN⟩, hr, hlk⟩ := C
  unfold m_XD_takeSprites_92 at h
  refine lv_aload_n hx hb dXD_takeSprites_92 rfl (lv_at hl 0 rfl) ?_
  refine tc_cr_XD_picture C0 hP (tc_use hN tw_125) dXD_takeSprites_93 ?_
  refine lv_iload hx hb dXD_takeSprites_96 (lv_at hl 5 rfl) ?_
  refine lv_iconst (v := 1) hx hb dXD_takeSprites_98 (by decide) ?_
  refine lv_iadd hx hb dXD_takeSprites_99 ?_
  obtain ⟨q100, e100, h⟩ := tc_bd_some h
  refine tc_cVi (As := [.int (l6 + 1)]) (rest := []) C0 (k_XP_vramWord hJ e100) tv_XD_47 (by decide) (by decide) hP hS hl 3 rfl rfl (Nat.le_of_ble_eq_true rfl) dXD_takeSprites_100 rfl (fun H locs hP hS => ?_)
  refine lv_bipush (v := 7) hx hb dXD_takeSprites_103 (by decide) ?_
  refine lv_iand hx hb dXD_takeSprites_105 ?_
  refine lv_istore (lv' := [(4, .int (q100.1 &&& 7)), (0, .ref (ad 5)), (1, .int l1), (2, .int l2), (3, .int l3), (5, .int l5), (6, .int l6)]) hx hb dXD_takeSprites_106 hl (by decide) rfl (fun ls hl => ?_)
  refine lv_iload hx hb dXD_takeSprites_108 (lv_at hl 0 rfl) ?_
  refine lv_if_ne (tgt := 115) hx hb dXD_takeSprites_110 (by decide) (fun hc => ?_) (fun hc => ?_)
  · have h := tc_in hc h
    refine lv_iinc (k := 5) (v := (l5 + 1)) (lv' := [(5, .int (l5 + 1)), (4, .int (q100.1 &&& 7)), (0, .ref (ad 5)), (1, .int l1), (2, .int l2), (3, .int l3), (6, .int l6)]) hx hb dXD_takeSprites_115 hl rfl rfl (by decide) rfl (fun ls hl => ?_)
    refine lv_goto (tgt := 21) hx hb dXD_takeSprites_118 (by decide) ?_
    exact hZ h hP hS (lv_sub hl [2, 3, 4, 5, 1, 0] rfl)
  · have h := tc_ip hc h
    refine lv_iload_n hx hb dXD_takeSprites_113 rfl (lv_at hl 4 rfl) ?_
    exact tc_cri C0 hP hS h dXD_takeSprites_114
def m_XD_takeSprites_81 (Z : tc_S → Int32 → Int32 → Int32 → Int32 → Int32 → Option (Int32 × tc_S)) (σ : tc_S) (l1 l2 l3 l5 l6 : Int32) : Option (Int32 × tc_S) := (tc_gd l3 3 (m_XD_takeSprites_92 Z (tc_sa σ 12 l3 l6) l1 l2 (l3 + 1) l5 l6))
set_option maxHeartbeats 4000000 in
set_option maxRecDepth 100000 in
theorem w_XD_takeSprites_81 (C : tc_C p s m args meth c RXD cXD_takeSprites 7 (some .int) D cA) (hJ : ∀ σ, va_D A (tc_cW ad cA σ)) {q : Int32 × tc_S} {Z : tc_S → Int32 → Int32 → Int32 → Int32 → Int32 → Option (Int32 × tc_S)} (hZ : ∀ {σ : tc_S} {l1 l2 l3 l4 l5 : Int32} {H : Heap} {locs : List Loc} {ls : Array Slot}, Z σ l1 l2 l3 l4 l5 = some q → va_P D vwCl (tc_cW ad cA σ) H → va_S A s.heap H locs → lv_has ls 7 [(0, .ref (ad 5)), (1, .int l1), (2, .int l2), (3, .int l3), (4, .int l4), (5, .int l5)] → W p l e (tc_R 2) s m args below meth c H locs 0 0 (MQ below (tc_Qi D (tc_cW ad cA q.2) A q.1) args s 0 0 A) (F0 m 21 ls [])) {σ : tc_S} {l1 l2 l3 l5 l6 : Int32} {H : Heap} {locs : List Loc} {ls : Array Slot} (h : m_XD_takeSprites_81 Z σ l1 l2 l3 l5 l6 = some q) (hP : va_P D vwCl (tc_cW ad cA σ) H) (hS : va_S A s.heap H locs) (hl : lv_has ls 7 [(0, .ref (ad 5)), (1, .int l1), (2, .int l2), (3, .int l3), (5, .int l5), (6, .int l6)]) : W p l e (tc_R 2) s m args below meth c H locs 0 0 (MQ below (tc_Qi D (tc_cW ad cA q.2) A q.1) args s 0 0 A) (F0 m 81 ls []) := by
  have C0 := C
  obtain ⟨hx, hb, hml, hown, ⟨hK, hN⟩, hr, hlk⟩ := C
  unfold m_XD_takeSprites_81 at h
  refine lv_aload_n hx hb dXD_takeSprites_81 rfl (lv_at hl 0 rfl) ?_
  refine tc_cr_XD_taken C0 hP (tc_use hN tw_132) dXD_takeSprites_82 ?_
  refine lv_iload_n hx hb dXD_takeSprites_85 rfl (lv_at hl 3 rfl) ?_
  refine lv_iload hx hb dXD_takeSprites_86 (lv_at hl 5 rfl) ?_
  obtain ⟨hi, h⟩ := tc_gd_some h
  refine tc_cst19 C0 hJ hP hS hi dXD_takeSprites_88 (fun H locs hP hS => ?_)
  refine lv_iinc (k := 3) (v := (l3 + 1)) (lv' := [(3, .int (l3 + 1)), (0, .ref (ad 5)), (1, .int l1), (2, .int l2), (5, .int l5), (6, .int l6)]) hx hb dXD_takeSprites_89 hl rfl rfl (by decide) rfl (fun ls hl => ?_)
  exact w_XD_takeSprites_92 C0 hJ hZ h hP hS (lv_sub hl [1, 2, 3, 0, 4, 5] rfl)
def m_XD_takeSprites_21 : Nat → tc_S → Int32 → Int32 → Int32 → Int32 → Int32 → Option (Int32 × tc_S)
  | 0, _, _, _, _, _, _ => none
  | n + 1, σ, l1, l2, l3, l4, l5 => (if 8 ≤ l5 then (some (l3, σ)) else ((m_XD_isOnLine σ (l2 + (4 * l4)) l1).bind (fun q40 => (if q40.1 = 0 then (m_XD_takeSprites_92 (m_XD_takeSprites_21 n) q40.2 l1 l2 l3 l5 (l2 + (4 * l4))) else (if l3 = 3 then (some (l3, (tc_sf q40.2 26 1))) else (if l3 ≤ 0 then (m_XD_takeSprites_81 (m_XD_takeSprites_21 n) q40.2 l1 l2 l3 l5 (l2 + (4 * l4))) else ((m_XP_vramWord q40.2 ((l2 + (4 * l4)) + 3)).bind (fun q70 => (if (q70.1 &&& 63) = 0 then (some (l3, q70.2)) else (m_XD_takeSprites_81 (m_XD_takeSprites_21 n) q70.2 l1 l2 l3 l5 (l2 + (4 * l4))))))))))))
set_option maxHeartbeats 4000000 in
set_option maxRecDepth 100000 in
theorem w_XD_takeSprites_21 (C : tc_C p s m args meth c RXD cXD_takeSprites 7 (some .int) D cA) (hJ : ∀ σ, va_D A (tc_cW ad cA σ)) {q : Int32 × tc_S} : ∀ (n : Nat) {σ : tc_S} {l1 l2 l3 l4 l5 : Int32} {H : Heap} {locs : List Loc} {ls : Array Slot} (h : m_XD_takeSprites_21 n σ l1 l2 l3 l4 l5 = some q) (hP : va_P D vwCl (tc_cW ad cA σ) H) (hS : va_S A s.heap H locs) (hl : lv_has ls 7 [(0, .ref (ad 5)), (1, .int l1), (2, .int l2), (3, .int l3), (4, .int l4), (5, .int l5)]), W p l e (tc_R 2) s m args below meth c H locs 0 0 (MQ below (tc_Qi D (tc_cW ad cA q.2) A q.1) args s 0 0 A) (F0 m 21 ls []) := by
  have C0 := C
  obtain ⟨hx, hb, hml, hown, ⟨hK, hN⟩, hr, hlk⟩ := C
  intro n
  induction n with
  | zero =>
    intro σ l1 l2 l3 l4 l5 H locs ls h hP hS hl
    exact absurd h (by simp [m_XD_takeSprites_21])
  | succ n ih =>
    intro σ l1 l2 l3 l4 l5 H locs ls h hP hS hl
    unfold m_XD_takeSprites_21 at h
    refine lv_iload hx hb dXD_takeSprites_21 (lv_at hl 5 rfl) ?_
    refine lv_bipush (v := 8) hx hb dXD_takeSprites_23 (by decide) ?_
    refine lv_icmp_ge (tgt := 121) hx hb dXD_takeSprites_25 (by decide) (fun hc => ?_) (fun hc => ?_)
    · have h := tc_ip hc h
      refine lv_iload_n hx hb dXD_takeSprites_121 rfl (lv_at hl 3 rfl) ?_
      exact tc_cri C0 hP hS h dXD_takeSprites_122
    · have h := tc_in hc h
      refine lv_iload_n hx hb dXD_takeSprites_28 rfl (lv_at hl 2 rfl) ?_
      refine lv_iconst (v := 4) hx hb dXD_takeSprites_29 (by decide) ?_
      refine lv_iload hx hb dXD_takeSprites_30 (lv_at hl 4 rfl) ?_
      refine lv_imul hx hb dXD_takeSprites_32 ?_
      refine lv_iadd hx hb dXD_takeSprites_33 ?_
      refine lv_istore (lv' := [(6, .int (l2 + (4 * l4))), (0, .ref (ad 5)), (1, .int l1), (2, .int l2), (3, .int l3), (4, .int l4), (5, .int l5)]) hx hb dXD_takeSprites_34 hl (by decide) rfl (fun ls hl => ?_)
      refine lv_aload_n hx hb dXD_takeSprites_36 rfl (lv_at hl 1 rfl) ?_
      refine lv_iload hx hb dXD_takeSprites_37 (lv_at hl 0 rfl) ?_
      refine lv_iload_n hx hb dXD_takeSprites_39 rfl (lv_at hl 2 rfl) ?_
      obtain ⟨q40, e40, h⟩ := tc_bd_some h
      refine tc_cVi (As := [.int (l2 + (4 * l4)), .int l1]) (rest := []) C0 (k_XD_isOnLine hJ e40) tv_XD_65 (by decide) (by decide) hP hS hl 5 rfl rfl (Nat.le_of_ble_eq_true rfl) dXD_takeSprites_40 rfl (fun H locs hP hS => ?_)
      refine lv_if_eq (tgt := 92) hx hb dXD_takeSprites_43 (by decide) (fun hc => ?_) (fun hc => ?_)
      · have h := tc_ip hc h
        exact w_XD_takeSprites_92 C0 hJ (fun h hP hS hl => ih h hP hS hl) h hP hS (lv_sub hl [1, 2, 3, 4, 6, 0] rfl)
      · have h := tc_in hc h
        refine lv_iload_n hx hb dXD_takeSprites_46 rfl (lv_at hl 4 rfl) ?_
        refine lv_iconst (v := 3) hx hb dXD_takeSprites_47 (by decide) ?_
        refine lv_icmp_ne (tgt := 58) hx hb dXD_takeSprites_48 (by decide) (fun hc => ?_) (fun hc => ?_)
        · have h := tc_in hc h
          refine lv_iload_n hx hb dXD_takeSprites_58 rfl (lv_at hl 4 rfl) ?_
          refine lv_if_le (tgt := 81) hx hb dXD_takeSprites_59 (by decide) (fun hc => ?_) (fun hc => ?_)
          · have h := tc_ip hc h
            exact w_XD_takeSprites_81 C0 hJ (fun h hP hS hl => ih h hP hS hl) h hP hS (lv_sub hl [1, 2, 3, 4, 6, 0] rfl)
          · have h := tc_in hc h
            refine lv_aload_n hx hb dXD_takeSprites_62 rfl (lv_at hl 1 rfl) ?_
            refine tc_cr_XD_picture C0 hP (tc_use hN tw_125) dXD_takeSprites_63 ?_
            refine lv_iload hx hb dXD_takeSprites_66 (lv_at hl 0 rfl) ?_
            refine lv_iconst (v := 3) hx hb dXD_takeSprites_68 (by decide) ?_
            refine lv_iadd hx hb dXD_takeSprites_69 ?_
            obtain ⟨q70, e70, h⟩ := tc_bd_some h
            refine tc_cVi (As := [.int ((l2 + (4 * l4)) + 3)]) (rest := []) C0 (k_XP_vramWord hJ e70) tv_XD_47 (by decide) (by decide) hP hS hl 3 rfl rfl (Nat.le_of_ble_eq_true rfl) dXD_takeSprites_70 rfl (fun H locs hP hS => ?_)
            refine lv_bipush (v := 63) hx hb dXD_takeSprites_73 (by decide) ?_
            refine lv_iand hx hb dXD_takeSprites_75 ?_
            refine lv_if_ne (tgt := 81) hx hb dXD_takeSprites_76 (by decide) (fun hc => ?_) (fun hc => ?_)
            · have h := tc_in hc h
              exact w_XD_takeSprites_81 C0 hJ (fun h hP hS hl => ih h hP hS hl) h hP hS (lv_sub hl [1, 2, 3, 4, 6, 0] rfl)
            · have h := tc_ip hc h
              refine lv_iload_n hx hb dXD_takeSprites_79 rfl (lv_at hl 4 rfl) ?_
              exact tc_cri C0 hP hS h dXD_takeSprites_80
        · have h := tc_ip hc h
          refine lv_aload_n hx hb dXD_takeSprites_51 rfl (lv_at hl 1 rfl) ?_
          refine lv_iconst (v := 1) hx hb dXD_takeSprites_52 (by decide) ?_
          refine tc_cp26 C0 hJ hP hS (tc_use hN tw_135) ⟨by decide, by decide⟩ dXD_takeSprites_53 (fun H locs hP hS => ?_)
          refine lv_iload_n hx hb dXD_takeSprites_56 rfl (lv_at hl 4 rfl) ?_
          exact tc_cri C0 hP hS h dXD_takeSprites_57
def m_XD_takeSprites (σ : tc_S) (l1 : Int32) : Option (Int32 × tc_S) := (tc_gd 5 16 (m_XD_takeSprites_21 2000 σ l1 (((tc_ga σ 5 5) &&& 15) * 32) 0 0 0))
set_option maxHeartbeats 4000000 in
set_option maxRecDepth 100000 in
theorem w_XD_takeSprites_0 (C : tc_C p s m args meth c RXD cXD_takeSprites 7 (some .int) D cA) (hJ : ∀ σ, va_D A (tc_cW ad cA σ)) {q : Int32 × tc_S} {σ : tc_S} {l1 : Int32} {H : Heap} {locs : List Loc} {ls : Array Slot} (h : m_XD_takeSprites σ l1 = some q) (hP : va_P D vwCl (tc_cW ad cA σ) H) (hS : va_S A s.heap H locs) (hl : lv_has ls 7 [(0, .ref (ad 5)), (1, .int l1)]) : W p l e (tc_R 2) s m args below meth c H locs 0 0 (MQ below (tc_Qi D (tc_cW ad cA q.2) A q.1) args s 0 0 A) (F0 m 0 ls []) := by
  have C0 := C
  obtain ⟨hx, hb, hml, hown, ⟨hK, hN⟩, hr, hlk⟩ := C
  unfold m_XD_takeSprites at h
  refine lv_aload_n hx hb dXD_takeSprites_0 rfl (lv_at hl 0 rfl) ?_
  refine tc_cr_XD_registers C0 hP (tc_use hN tw_126) dXD_takeSprites_1 ?_
  refine lv_iconst (v := 5) hx hb dXD_takeSprites_4 (by decide) ?_
  obtain ⟨hi, h⟩ := tc_gd_some h
  refine tc_cld14 C0 hP hi dXD_takeSprites_5 ?_
  refine lv_bipush (v := 15) hx hb dXD_takeSprites_6 (by decide) ?_
  refine lv_iand hx hb dXD_takeSprites_8 ?_
  refine lv_bipush (v := 32) hx hb dXD_takeSprites_9 (by decide) ?_
  refine lv_imul hx hb dXD_takeSprites_11 ?_
  refine lv_istore_n (lv' := [(2, .int (((tc_ga σ 5 5) &&& 15) * 32)), (0, .ref (ad 5)), (1, .int l1)]) hx hb dXD_takeSprites_12 rfl hl (by decide) rfl (fun ls hl => ?_)
  refine lv_iconst (v := 0) hx hb dXD_takeSprites_13 (by decide) ?_
  refine lv_istore_n (lv' := [(3, .int 0), (2, .int (((tc_ga σ 5 5) &&& 15) * 32)), (0, .ref (ad 5)), (1, .int l1)]) hx hb dXD_takeSprites_14 rfl hl (by decide) rfl (fun ls hl => ?_)
  refine lv_iconst (v := 0) hx hb dXD_takeSprites_15 (by decide) ?_
  refine lv_istore (lv' := [(4, .int 0), (3, .int 0), (2, .int (((tc_ga σ 5 5) &&& 15) * 32)), (0, .ref (ad 5)), (1, .int l1)]) hx hb dXD_takeSprites_16 hl (by decide) rfl (fun ls hl => ?_)
  refine lv_iconst (v := 0) hx hb dXD_takeSprites_18 (by decide) ?_
  refine lv_istore (lv' := [(5, .int 0), (4, .int 0), (3, .int 0), (2, .int (((tc_ga σ 5 5) &&& 15) * 32)), (0, .ref (ad 5)), (1, .int l1)]) hx hb dXD_takeSprites_19 hl (by decide) rfl (fun ls hl => ?_)
  exact w_XD_takeSprites_21 C0 hJ _ h hP hS (lv_sub hl [4, 5, 3, 2, 1, 0] rfl)
theorem k_XD_takeSprites (hJ : ∀ σ, va_D A (tc_cW ad cA σ)) {σ : tc_S} {l1 : Int32} {q : Int32 × tc_S} (h : m_XD_takeSprites σ l1 = some q) : Met l yXD_takeSprites [.code yXD_takeSprites cXD_takeSprites 7 (some .int)] (tc_R 2) (tc_Pc D cA (tc_cW ad cA σ) [.ref (ad 5), .int l1]) (tc_Qi D (tc_cW ad cA q.2) A q.1) 0 0 A :=
  tc_met (by decide) (Nat.le_of_ble_eq_true rfl) (fun _ _ _ _ _ _ _ C hP _ hl => w_XD_takeSprites_0 C hJ h hP va_S.rf hl)
def m_XD_drawSprite_121 (Z : tc_S → Int32 → Int32 → Int32 → Int32 → Option (tc_S)) (σ : tc_S) (l3 l4 l5 l6 : Int32) : Option (tc_S) := (Z σ l3 l4 l5 (l6 + 1))
set_option maxHeartbeats 4000000 in
set_option maxRecDepth 100000 in
theorem w_XD_drawSprite_121 (C : tc_C p s m args meth c RXD cXD_drawSprite 9 none D cA) (hJ : ∀ σ, va_D A (tc_cW ad cA σ)) {q : tc_S} {Z : tc_S → Int32 → Int32 → Int32 → Int32 → Option (tc_S)} (hZ : ∀ {σ : tc_S} {l3 l4 l5 l6 : Int32} {H : Heap} {locs : List Loc} {ls : Array Slot}, Z σ l3 l4 l5 l6 = some q → va_P D vwCl (tc_cW ad cA σ) H → va_S A s.heap H locs → lv_has ls 9 [(0, .ref (ad 5)), (3, .int l3), (4, .int l4), (5, .int l5), (6, .int l6)] → W p l e (tc_R 2) s m args below meth c H locs 0 0 (MQ below (tc_Qv D (tc_cW ad cA q) A) args s 0 0 A) (F0 m 50 ls [])) {σ : tc_S} {l3 l4 l5 l6 : Int32} {H : Heap} {locs : List Loc} {ls : Array Slot} (h : m_XD_drawSprite_121 Z σ l3 l4 l5 l6 = some q) (hP : va_P D vwCl (tc_cW ad cA σ) H) (hS : va_S A s.heap H locs) (hl : lv_has ls 9 [(0, .ref (ad 5)), (3, .int l3), (4, .int l4), (5, .int l5), (6, .int l6)]) : W p l e (tc_R 2) s m args below meth c H locs 0 0 (MQ below (tc_Qv D (tc_cW ad cA q) A) args s 0 0 A) (F0 m 121 ls []) := by
  have C0 := C
  obtain ⟨hx, hb, hml, hown, ⟨hK, hN⟩, hr, hlk⟩ := C
  unfold m_XD_drawSprite_121 at h
  refine lv_iinc (k := 4) (v := (l6 + 1)) (lv' := [(6, .int (l6 + 1)), (0, .ref (ad 5)), (3, .int l3), (4, .int l4), (5, .int l5)]) hx hb dXD_drawSprite_121 hl rfl rfl (by decide) rfl (fun ls hl => ?_)
  refine lv_goto (tgt := 50) hx hb dXD_drawSprite_124 (by decide) ?_
  exact hZ h hP hS (lv_sub hl [1, 2, 3, 4, 0] rfl)
def m_XD_drawSprite_50 : Nat → tc_S → Int32 → Int32 → Int32 → Int32 → Option (tc_S)
  | 0, _, _, _, _, _ => none
  | n + 1, σ, l3, l4, l5, l6 => (if 4 ≤ l6 then (some σ) else ((m_XD_patternDot σ l4 l6 l3).bind (fun q69 => (if (l5 + l6) < 0 then (m_XD_drawSprite_121 (m_XD_drawSprite_50 n) q69.2 l3 l4 l5 l6) else (if 16 ≤ (l5 + l6) then (m_XD_drawSprite_121 (m_XD_drawSprite_50 n) q69.2 l3 l4 l5 l6) else (if q69.1 = 0 then (m_XD_drawSprite_121 (m_XD_drawSprite_50 n) q69.2 l3 l4 l5 l6) else (tc_gd (l5 + l6) 16 (if (tc_ga q69.2 11 (l5 + l6)) = 0 then (tc_gd (l5 + l6) 16 (m_XD_drawSprite_121 (m_XD_drawSprite_50 n) (tc_sa q69.2 11 (l5 + l6) q69.1) l3 l4 l5 l6)) else (m_XD_drawSprite_121 (m_XD_drawSprite_50 n) (tc_sf q69.2 25 1) l3 l4 l5 l6)))))))))
set_option maxHeartbeats 4000000 in
set_option maxRecDepth 100000 in
theorem w_XD_drawSprite_50 (C : tc_C p s m args meth c RXD cXD_drawSprite 9 none D cA) (hJ : ∀ σ, va_D A (tc_cW ad cA σ)) {q : tc_S} : ∀ (n : Nat) {σ : tc_S} {l3 l4 l5 l6 : Int32} {H : Heap} {locs : List Loc} {ls : Array Slot} (h : m_XD_drawSprite_50 n σ l3 l4 l5 l6 = some q) (hP : va_P D vwCl (tc_cW ad cA σ) H) (hS : va_S A s.heap H locs) (hl : lv_has ls 9 [(0, .ref (ad 5)), (3, .int l3), (4, .int l4), (5, .int l5), (6, .int l6)]), W p l e (tc_R 2) s m args below meth c H locs 0 0 (MQ below (tc_Qv D (tc_cW ad cA q) A) args s 0 0 A) (F0 m 50 ls []) := by
  have C0 := C
  obtain ⟨hx, hb, hml, hown, ⟨hK, hN⟩, hr, hlk⟩ := C
  intro n
  induction n with
  | zero =>
    intro σ l3 l4 l5 l6 H locs ls h hP hS hl
    exact absurd h (by simp [m_XD_drawSprite_50])
  | succ n ih =>
    intro σ l3 l4 l5 l6 H locs ls h hP hS hl
    unfold m_XD_drawSprite_50 at h
    refine lv_iload hx hb dXD_drawSprite_50 (lv_at hl 4 rfl) ?_
    refine lv_iconst (v := 4) hx hb dXD_drawSprite_52 (by decide) ?_
    refine lv_icmp_ge (tgt := 127) hx hb dXD_drawSprite_53 (by decide) (fun hc => ?_) (fun hc => ?_)
    · have h := tc_ip hc h
      exact tc_crv C0 hP hS h dXD_drawSprite_127
    · have h := tc_in hc h
      refine lv_iload hx hb dXD_drawSprite_56 (lv_at hl 3 rfl) ?_
      refine lv_iload hx hb dXD_drawSprite_58 (lv_at hl 4 rfl) ?_
      refine lv_iadd hx hb dXD_drawSprite_60 ?_
      refine lv_istore (lv' := [(7, .int (l5 + l6)), (0, .ref (ad 5)), (3, .int l3), (4, .int l4), (5, .int l5), (6, .int l6)]) hx hb dXD_drawSprite_61 hl (by decide) rfl (fun ls hl => ?_)
      refine lv_aload_n hx hb dXD_drawSprite_63 rfl (lv_at hl 1 rfl) ?_
      refine lv_iload hx hb dXD_drawSprite_64 (lv_at hl 3 rfl) ?_
      refine lv_iload hx hb dXD_drawSprite_66 (lv_at hl 5 rfl) ?_
      refine lv_iload_n hx hb dXD_drawSprite_68 rfl (lv_at hl 2 rfl) ?_
      obtain ⟨q69, e69, h⟩ := tc_bd_some h
      refine tc_cVi (As := [.int l4, .int l6, .int l3]) (rest := []) C0 (k_XD_patternDot hJ e69) tv_XD_54 (by decide) (by decide) hP hS hl 5 rfl rfl (Nat.le_of_ble_eq_true rfl) dXD_drawSprite_69 rfl (fun H locs hP hS => ?_)
      refine lv_istore (lv' := [(8, .int q69.1), (7, .int (l5 + l6)), (0, .ref (ad 5)), (3, .int l3), (4, .int l4), (5, .int l5), (6, .int l6)]) hx hb dXD_drawSprite_72 hl (by decide) rfl (fun ls hl => ?_)
      refine lv_iload hx hb dXD_drawSprite_74 (lv_at hl 1 rfl) ?_
      refine lv_if_lt (tgt := 121) hx hb dXD_drawSprite_76 (by decide) (fun hc => ?_) (fun hc => ?_)
      · have h := tc_ip hc h
        exact w_XD_drawSprite_121 C0 hJ (fun h hP hS hl => ih h hP hS hl) h hP hS (lv_sub hl [2, 3, 4, 5, 6] rfl)
      · have h := tc_in hc h
        refine lv_iload hx hb dXD_drawSprite_79 (lv_at hl 1 rfl) ?_
        refine lv_bipush (v := 16) hx hb dXD_drawSprite_81 (by decide) ?_
        refine lv_icmp_ge (tgt := 121) hx hb dXD_drawSprite_83 (by decide) (fun hc => ?_) (fun hc => ?_)
        · have h := tc_ip hc h
          exact w_XD_drawSprite_121 C0 hJ (fun h hP hS hl => ih h hP hS hl) h hP hS (lv_sub hl [2, 3, 4, 5, 6] rfl)
        · have h := tc_in hc h
          refine lv_iload hx hb dXD_drawSprite_86 (lv_at hl 0 rfl) ?_
          refine lv_if_ne (tgt := 94) hx hb dXD_drawSprite_88 (by decide) (fun hc => ?_) (fun hc => ?_)
          · have h := tc_in hc h
            refine lv_aload_n hx hb dXD_drawSprite_94 rfl (lv_at hl 2 rfl) ?_
            refine tc_cr_XD_dotsOfSprites C0 hP (tc_use hN tw_131) dXD_drawSprite_95 ?_
            refine lv_iload hx hb dXD_drawSprite_98 (lv_at hl 1 rfl) ?_
            obtain ⟨hi, h⟩ := tc_gd_some h
            refine tc_cld18 C0 hP hi dXD_drawSprite_100 ?_
            refine lv_if_ne (tgt := 116) hx hb dXD_drawSprite_101 (by decide) (fun hc => ?_) (fun hc => ?_)
            · have h := tc_in hc h
              refine lv_aload_n hx hb dXD_drawSprite_116 rfl (lv_at hl 2 rfl) ?_
              refine lv_iconst (v := 1) hx hb dXD_drawSprite_117 (by decide) ?_
              refine tc_cp25 C0 hJ hP hS (tc_use hN tw_134) ⟨by decide, by decide⟩ dXD_drawSprite_118 (fun H locs hP hS => ?_)
              exact w_XD_drawSprite_121 C0 hJ (fun h hP hS hl => ih h hP hS hl) h hP hS (lv_sub hl [2, 3, 4, 5, 6] rfl)
            · have h := tc_ip hc h
              refine lv_aload_n hx hb dXD_drawSprite_104 rfl (lv_at hl 2 rfl) ?_
              refine tc_cr_XD_dotsOfSprites C0 hP (tc_use hN tw_131) dXD_drawSprite_105 ?_
              refine lv_iload hx hb dXD_drawSprite_108 (lv_at hl 1 rfl) ?_
              refine lv_iload hx hb dXD_drawSprite_110 (lv_at hl 0 rfl) ?_
              obtain ⟨hi, h⟩ := tc_gd_some h
              refine tc_cst18 C0 hJ hP hS hi dXD_drawSprite_112 (fun H locs hP hS => ?_)
              refine lv_goto (tgt := 121) hx hb dXD_drawSprite_113 (by decide) ?_
              exact w_XD_drawSprite_121 C0 hJ (fun h hP hS hl => ih h hP hS hl) h hP hS (lv_sub hl [2, 3, 4, 5, 6] rfl)
          · have h := tc_ip hc h
            refine lv_goto (tgt := 121) hx hb dXD_drawSprite_91 (by decide) ?_
            exact w_XD_drawSprite_121 C0 hJ (fun h hP hS hl => ih h hP hS hl) h hP hS (lv_sub hl [2, 3, 4, 5, 6] rfl)
def m_XD_drawSprite (σ : tc_S) (l1 l2 : Int32) : Option (tc_S) := ((m_XP_vramWord σ l1).bind (fun q9 => ((m_XP_vramWord q9.2 (l1 + 2)).bind (fun q24 => ((m_XP_vramWord q24.2 (l1 + 3)).bind (fun q36 => (m_XD_drawSprite_50 2000 q36.2 ((l2 + 16) - (q9.1 &&& 63)) q24.1 ((q36.1 &&& 63) - 16) 0)))))))
set_option maxHeartbeats 4000000 in
set_option maxRecDepth 100000 in
theorem w_XD_drawSprite_0 (C : tc_C p s m args meth c RXD cXD_drawSprite 9 none D cA) (hJ : ∀ σ, va_D A (tc_cW ad cA σ)) {q : tc_S} {σ : tc_S} {l1 l2 : Int32} {H : Heap} {locs : List Loc} {ls : Array Slot} (h : m_XD_drawSprite σ l1 l2 = some q) (hP : va_P D vwCl (tc_cW ad cA σ) H) (hS : va_S A s.heap H locs) (hl : lv_has ls 9 [(0, .ref (ad 5)), (1, .int l1), (2, .int l2)]) : W p l e (tc_R 2) s m args below meth c H locs 0 0 (MQ below (tc_Qv D (tc_cW ad cA q) A) args s 0 0 A) (F0 m 0 ls []) := by
  have C0 := C
  obtain ⟨hx, hb, hml, hown, ⟨hK, hN⟩, hr, hlk⟩ := C
  unfold m_XD_drawSprite at h
  refine lv_iload_n hx hb dXD_drawSprite_0 rfl (lv_at hl 2 rfl) ?_
  refine lv_bipush (v := 16) hx hb dXD_drawSprite_1 (by decide) ?_
  refine lv_iadd hx hb dXD_drawSprite_3 ?_
  refine lv_aload_n hx hb dXD_drawSprite_4 rfl (lv_at hl 0 rfl) ?_
  refine tc_cr_XD_picture C0 hP (tc_use hN tw_125) dXD_drawSprite_5 ?_
  refine lv_iload_n hx hb dXD_drawSprite_8 rfl (lv_at hl 1 rfl) ?_
  obtain ⟨q9, e9, h⟩ := tc_bd_some h
  refine tc_cVi (As := [.int l1]) (rest := [.int (l2 + 16)]) C0 (k_XP_vramWord hJ e9) tv_XD_47 (by decide) (by decide) hP hS hl 3 rfl rfl (Nat.le_of_ble_eq_true rfl) dXD_drawSprite_9 rfl (fun H locs hP hS => ?_)
  refine lv_bipush (v := 63) hx hb dXD_drawSprite_12 (by decide) ?_
  refine lv_iand hx hb dXD_drawSprite_14 ?_
  refine lv_isub hx hb dXD_drawSprite_15 ?_
  refine lv_istore_n (lv' := [(3, .int ((l2 + 16) - (q9.1 &&& 63))), (0, .ref (ad 5)), (1, .int l1), (2, .int l2)]) hx hb dXD_drawSprite_16 rfl hl (by decide) rfl (fun ls hl => ?_)
  refine lv_aload_n hx hb dXD_drawSprite_17 rfl (lv_at hl 1 rfl) ?_
  refine tc_cr_XD_picture C0 hP (tc_use hN tw_125) dXD_drawSprite_18 ?_
  refine lv_iload_n hx hb dXD_drawSprite_21 rfl (lv_at hl 2 rfl) ?_
  refine lv_iconst (v := 2) hx hb dXD_drawSprite_22 (by decide) ?_
  refine lv_iadd hx hb dXD_drawSprite_23 ?_
  obtain ⟨q24, e24, h⟩ := tc_bd_some h
  refine tc_cVi (As := [.int (l1 + 2)]) (rest := []) C0 (k_XP_vramWord hJ e24) tv_XD_47 (by decide) (by decide) hP hS hl 3 rfl rfl (Nat.le_of_ble_eq_true rfl) dXD_drawSprite_24 rfl (fun H locs hP hS => ?_)
  refine lv_istore (lv' := [(4, .int q24.1), (3, .int ((l2 + 16) - (q9.1 &&& 63))), (0, .ref (ad 5)), (1, .int l1), (2, .int l2)]) hx hb dXD_drawSprite_27 hl (by decide) rfl (fun ls hl => ?_)
  refine lv_aload_n hx hb dXD_drawSprite_29 rfl (lv_at hl 2 rfl) ?_
  refine tc_cr_XD_picture C0 hP (tc_use hN tw_125) dXD_drawSprite_30 ?_
  refine lv_iload_n hx hb dXD_drawSprite_33 rfl (lv_at hl 3 rfl) ?_
  refine lv_iconst (v := 3) hx hb dXD_drawSprite_34 (by decide) ?_
  refine lv_iadd hx hb dXD_drawSprite_35 ?_
  obtain ⟨q36, e36, h⟩ := tc_bd_some h
  refine tc_cVi (As := [.int (l1 + 3)]) (rest := []) C0 (k_XP_vramWord hJ e36) tv_XD_47 (by decide) (by decide) hP hS hl 3 rfl rfl (Nat.le_of_ble_eq_true rfl) dXD_drawSprite_36 rfl (fun H locs hP hS => ?_)
  refine lv_bipush (v := 63) hx hb dXD_drawSprite_39 (by decide) ?_
  refine lv_iand hx hb dXD_drawSprite_41 ?_
  refine lv_bipush (v := 16) hx hb dXD_drawSprite_42 (by decide) ?_
  refine lv_isub hx hb dXD_drawSprite_44 ?_
  refine lv_istore (lv' := [(5, .int ((q36.1 &&& 63) - 16)), (4, .int q24.1), (3, .int ((l2 + 16) - (q9.1 &&& 63))), (0, .ref (ad 5)), (1, .int l1), (2, .int l2)]) hx hb dXD_drawSprite_45 hl (by decide) rfl (fun ls hl => ?_)
  refine lv_iconst (v := 0) hx hb dXD_drawSprite_47 (by decide) ?_
  refine lv_istore (lv' := [(6, .int 0), (5, .int ((q36.1 &&& 63) - 16)), (4, .int q24.1), (3, .int ((l2 + 16) - (q9.1 &&& 63))), (0, .ref (ad 5)), (1, .int l1), (2, .int l2)]) hx hb dXD_drawSprite_48 hl (by decide) rfl (fun ls hl => ?_)
  exact w_XD_drawSprite_50 C0 hJ _ h hP hS (lv_sub hl [4, 3, 2, 1, 0] rfl)
theorem k_XD_drawSprite (hJ : ∀ σ, va_D A (tc_cW ad cA σ)) {σ : tc_S} {l1 l2 : Int32} {q : tc_S} (h : m_XD_drawSprite σ l1 l2 = some q) : Met l yXD_drawSprite [.code yXD_drawSprite cXD_drawSprite 9 none] (tc_R 2) (tc_Pc D cA (tc_cW ad cA σ) [.ref (ad 5), .int l1, .int l2]) (tc_Qv D (tc_cW ad cA q) A) 0 0 A :=
  tc_met (by decide) (Nat.le_of_ble_eq_true rfl) (fun _ _ _ _ _ _ _ C hP _ hl => w_XD_drawSprite_0 C hJ h hP va_S.rf hl)
end WALK_C_05
