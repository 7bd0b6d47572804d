section WALK_C_06
variable {p : Program} {l : Launch} {e : Env} {s : State} {m : MethodId} {args : Array Value} {below : List Frame} {meth : Method} {c : Code} {D : va_G} {cA : ClassId} {A : Nat → Prop} {ad : Nat → Nat}
def m_XD_drawSprites_29 : Nat → tc_S → Int32 → Int32 → Int32 → Option (tc_S)
  | 0, _, _, _, _ => none
  | n + 1, σ, l1, l2, l3 => (if l2 ≤ l3 then (some σ) else (tc_gd l3 3 ((m_XD_drawSprite σ (tc_ga σ 12 l3) l1).bind (fun q42 => (m_XD_drawSprites_29 n q42 l1 l2 (l3 + 1))))))
set_option maxHeartbeats 4000000 in
set_option maxRecDepth 100000 in
theorem w_XD_drawSprites_29 (C : tc_C p s m args meth c RXD cXD_drawSprites 4 none D cA) (hJ : ∀ σ, va_D A (tc_cW ad cA σ)) {q : tc_S} : ∀ (n : Nat) {σ : tc_S} {l1 l2 l3 : Int32} {H : Heap} {locs : List Loc} {ls : Array Slot} (h : m_XD_drawSprites_29 n σ l1 l2 l3 = some q) (hP : va_P D vwCl (tc_cW ad cA σ) H) (hS : va_S A s.heap H locs) (hl : lv_has ls 4 [(0, .ref (ad 5)), (1, .int l1), (2, .int l2), (3, .int l3)]), W p l e (tc_R 3) s m args below meth c H locs 0 0 (MQ below (tc_Qv D (tc_cW ad cA q) A) args s 0 0 A) (F0 m 29 ls []) := by
  have C0 := C
  obtain ⟨hx, hb, hml, hown, ⟨hK, hN⟩, hr, hlk⟩ := C
  intro n
  induction n with
  | zero =>
    intro σ l1 l2 l3 H locs ls h hP hS hl
    exact absurd h (by simp [m_XD_drawSprites_29])
  | succ n ih =>
    intro σ l1 l2 l3 H locs ls h hP hS hl
    unfold m_XD_drawSprites_29 at h
    refine lv_iload_n hx hb dXD_drawSprites_29 rfl (lv_at hl 3 rfl) ?_
    refine lv_iload_n hx hb dXD_drawSprites_30 rfl (lv_at hl 2 rfl) ?_
    refine lv_icmp_ge (tgt := 51) hx hb dXD_drawSprites_31 (by decide) (fun hc => ?_) (fun hc => ?_)
    · have h := tc_ip hc h
      exact tc_crv C0 hP hS h dXD_drawSprites_51
    · have h := tc_in hc h
      refine lv_aload_n hx hb dXD_drawSprites_34 rfl (lv_at hl 0 rfl) ?_
      refine lv_aload_n hx hb dXD_drawSprites_35 rfl (lv_at hl 0 rfl) ?_
      refine tc_cr_XD_taken C0 hP (tc_use hN tw_132) dXD_drawSprites_36 ?_
      refine lv_iload_n hx hb dXD_drawSprites_39 rfl (lv_at hl 3 rfl) ?_
      obtain ⟨hi, h⟩ := tc_gd_some h
      refine tc_cld19 C0 hP hi dXD_drawSprites_40 ?_
      refine lv_iload_n hx hb dXD_drawSprites_41 rfl (lv_at hl 1 rfl) ?_
      obtain ⟨q42, e42, h⟩ := tc_bd_some h
      refine tc_cVv (As := [.int (tc_ga σ 12 l3), .int l1]) (rest := []) C0 (k_XD_drawSprite hJ e42) tv_XD_61 (by decide) (by decide) hP hS hl 5 rfl rfl (Nat.le_of_ble_eq_true rfl) dXD_drawSprites_42 rfl (fun H locs hP hS => ?_)
      refine lv_iinc (k := 3) (v := (l3 + 1)) (lv' := [(3, .int (l3 + 1)), (0, .ref (ad 5)), (1, .int l1), (2, .int l2)]) hx hb dXD_drawSprites_45 hl rfl rfl (by decide) rfl (fun ls hl => ?_)
      refine lv_goto (tgt := 29) hx hb dXD_drawSprites_48 (by decide) ?_
      exact ih h hP hS (lv_sub hl [1, 2, 3, 0] rfl)
def m_XD_drawSprites_2 : Nat → tc_S → Int32 → Int32 → Option (tc_S)
  | 0, _, _, _ => none
  | n + 1, σ, l1, l2 => (if 16 ≤ l2 then ((m_XD_takeSprites σ l1).bind (fun q23 => (m_XD_drawSprites_29 2000 q23.2 l1 q23.1 0))) else (tc_gd l2 16 (m_XD_drawSprites_2 n (tc_sa σ 11 l2 0) l1 (l2 + 1))))
set_option maxHeartbeats 4000000 in
set_option maxRecDepth 100000 in
theorem w_XD_drawSprites_2 (C : tc_C p s m args meth c RXD cXD_drawSprites 4 none D cA) (hJ : ∀ σ, va_D A (tc_cW ad cA σ)) {q : tc_S} : ∀ (n : Nat) {σ : tc_S} {l1 l2 : Int32} {H : Heap} {locs : List Loc} {ls : Array Slot} (h : m_XD_drawSprites_2 n σ l1 l2 = some q) (hP : va_P D vwCl (tc_cW ad cA σ) H) (hS : va_S A s.heap H locs) (hl : lv_has ls 4 [(0, .ref (ad 5)), (1, .int l1), (2, .int l2)]), W p l e (tc_R 3) s m args below meth c H locs 0 0 (MQ below (tc_Qv D (tc_cW ad cA q) A) args s 0 0 A) (F0 m 2 ls []) := by
  have C0 := C
  obtain ⟨hx, hb, hml, hown, ⟨hK, hN⟩, hr, hlk⟩ := C
  intro n
  induction n with
  | zero =>
    intro σ l1 l2 H locs ls h hP hS hl
    exact absurd h (by simp [m_XD_drawSprites_2])
  | succ n ih =>
    intro σ l1 l2 H locs ls h hP hS hl
    unfold m_XD_drawSprites_2 at h
    refine lv_iload_n hx hb dXD_drawSprites_2 rfl (lv_at hl 2 rfl) ?_
    refine lv_bipush (v := 16) hx hb dXD_drawSprites_3 (by decide) ?_
    refine lv_icmp_ge (tgt := 21) hx hb dXD_drawSprites_5 (by decide) (fun hc => ?_) (fun hc => ?_)
    · have h := tc_ip hc h
      refine lv_aload_n hx hb dXD_drawSprites_21 rfl (lv_at hl 0 rfl) ?_
      refine lv_iload_n hx hb dXD_drawSprites_22 rfl (lv_at hl 1 rfl) ?_
      obtain ⟨q23, e23, h⟩ := tc_bd_some h
      refine tc_cVi (As := [.int l1]) (rest := []) C0 (k_XD_takeSprites hJ e23) tv_XD_58 (by decide) (by decide) hP hS hl 5 rfl rfl (Nat.le_of_ble_eq_true rfl) dXD_drawSprites_23 rfl (fun H locs hP hS => ?_)
      refine lv_istore_n (lv' := [(2, .int q23.1), (0, .ref (ad 5)), (1, .int l1)]) hx hb dXD_drawSprites_26 rfl hl (by decide) rfl (fun ls hl => ?_)
      refine lv_iconst (v := 0) hx hb dXD_drawSprites_27 (by decide) ?_
      refine lv_istore_n (lv' := [(3, .int 0), (2, .int q23.1), (0, .ref (ad 5)), (1, .int l1)]) hx hb dXD_drawSprites_28 rfl hl (by decide) rfl (fun ls hl => ?_)
      exact w_XD_drawSprites_29 C0 hJ _ h hP hS (lv_sub hl [2, 3, 1, 0] rfl)
    · have h := tc_in hc h
      refine lv_aload_n hx hb dXD_drawSprites_8 rfl (lv_at hl 0 rfl) ?_
      refine tc_cr_XD_dotsOfSprites C0 hP (tc_use hN tw_131) dXD_drawSprites_9 ?_
      refine lv_iload_n hx hb dXD_drawSprites_12 rfl (lv_at hl 2 rfl) ?_
      refine lv_iconst (v := 0) hx hb dXD_drawSprites_13 (by decide) ?_
      obtain ⟨hi, h⟩ := tc_gd_some h
      refine tc_cst18 C0 hJ hP hS hi dXD_drawSprites_14 (fun H locs hP hS => ?_)
      refine lv_iinc (k := 2) (v := (l2 + 1)) (lv' := [(2, .int (l2 + 1)), (0, .ref (ad 5)), (1, .int l1)]) hx hb dXD_drawSprites_15 hl rfl rfl (by decide) rfl (fun ls hl => ?_)
      refine lv_goto (tgt := 2) hx hb dXD_drawSprites_18 (by decide) ?_
      exact ih h hP hS (lv_sub hl [1, 2, 0] rfl)
def m_XD_drawSprites (σ : tc_S) (l1 : Int32) : Option (tc_S) := (m_XD_drawSprites_2 2000 σ l1 0)
set_option maxHeartbeats 4000000 in
set_option maxRecDepth 100000 in
theorem w_XD_drawSprites_0 (C : tc_C p s m args meth c RXD cXD_drawSprites 4 none D cA) (hJ : ∀ σ, va_D A (tc_cW ad cA σ)) {q : tc_S} {σ : tc_S} {l1 : Int32} {H : Heap} {locs : List Loc} {ls : Array Slot} (h : m_XD_drawSprites σ l1 = some q) (hP : va_P D vwCl (tc_cW ad cA σ) H) (hS : va_S A s.heap H locs) (hl : lv_has ls 4 [(0, .ref (ad 5)), (1, .int l1)]) : W p l e (tc_R 3) s m args below meth c H locs 0 0 (MQ below (tc_Qv D (tc_cW ad cA q) A) args s 0 0 A) (F0 m 0 ls []) := by
  have C0 := C
  obtain ⟨hx, hb, hml, hown, ⟨hK, hN⟩, hr, hlk⟩ := C
  unfold m_XD_drawSprites at h
  refine lv_iconst (v := 0) hx hb dXD_drawSprites_0 (by decide) ?_
  refine lv_istore_n (lv' := [(2, .int 0), (0, .ref (ad 5)), (1, .int l1)]) hx hb dXD_drawSprites_1 rfl hl (by decide) rfl (fun ls hl => ?_)
  exact w_XD_drawSprites_2 C0 hJ _ h hP hS (lv_sub hl [1, 2, 0] rfl)
theorem k_XD_drawSprites (hJ : ∀ σ, va_D A (tc_cW ad cA σ)) {σ : tc_S} {l1 : Int32} {q : tc_S} (h : m_XD_drawSprites σ l1 = some q) : Met l yXD_drawSprites [.code yXD_drawSprites cXD_drawSprites 4 none] (tc_R 3) (tc_Pc D cA (tc_cW ad cA σ) [.ref (ad 5), .int l1]) (tc_Qv D (tc_cW ad cA q) A) 0 0 A :=
  tc_met (by decide) (Nat.le_of_ble_eq_true rfl) (fun _ _ _ _ _ _ _ C hP _ hl => w_XD_drawSprites_0 C hJ h hP va_S.rf hl)
def m_XD_draw_127 (Z : tc_S → Int32 → Int32 → Int32 → Int32 → Option (tc_S)) (σ : tc_S) (l1 l2 l3 l4 k0 k1 : Int32) : Option (tc_S) := (tc_gd k1 128 (Z (tc_sa σ 6 k1 k0) l1 l2 l3 (l4 + 1)))
set_option maxHeartbeats 4000000 in
set_option maxRecDepth 100000 in
theorem w_XD_draw_127 (C : tc_C p s m args meth c RXD cXD_draw 6 none D cA) (hJ : ∀ σ, va_D A (tc_cW ad cA σ)) {q : tc_S} {Z : tc_S → Int32 → Int32 → Int32 → Int32 → Option (tc_S)} (hZ : ∀ {σ : tc_S} {l1 l2 l3 l4 : Int32} {H : Heap} {locs : List Loc} {ls : Array Slot}, Z σ l1 l2 l3 l4 = some q → va_P D vwCl (tc_cW ad cA σ) H → va_S A s.heap H locs → lv_has ls 6 [(0, .ref (ad 5)), (1, .int l1), (2, .int l2), (3, .int l3), (4, .int l4)] → W p l e (tc_R 4) s m args below meth c H locs 0 0 (MQ below (tc_Qv D (tc_cW ad cA q) A) args s 0 0 A) (F0 m 61 ls [])) {σ : tc_S} {l1 l2 l3 l4 k0 k1 : Int32} {H : Heap} {locs : List Loc} {ls : Array Slot} (h : m_XD_draw_127 Z σ l1 l2 l3 l4 k0 k1 = some q) (hP : va_P D vwCl (tc_cW ad cA σ) H) (hS : va_S A s.heap H locs) (hl : lv_has ls 6 [(0, .ref (ad 5)), (1, .int l1), (2, .int l2), (3, .int l3), (4, .int l4)]) : W p l e (tc_R 4) s m args below meth c H locs 0 0 (MQ below (tc_Qv D (tc_cW ad cA q) A) args s 0 0 A) (F0 m 127 ls [.int k0, .int k1, .ref (ad 15)]) := by
  have C0 := C
  obtain ⟨hx, hb, hml, hown, ⟨hK, hN⟩, hr, hlk⟩ := C
  unfold m_XD_draw_127 at h
  obtain ⟨hi, h⟩ := tc_gd_some h
  refine tc_cst15 C0 hJ hP hS hi dXD_draw_127 (fun H locs hP hS => ?_)
  refine lv_iinc (k := 4) (v := (l4 + 1)) (lv' := [(4, .int (l4 + 1)), (0, .ref (ad 5)), (1, .int l1), (2, .int l2), (3, .int l3)]) hx hb dXD_draw_128 hl rfl rfl (by decide) rfl (fun ls hl => ?_)
  refine lv_goto (tgt := 61) hx hb dXD_draw_131 (by decide) ?_
  exact hZ h hP hS (lv_sub hl [1, 2, 3, 4, 0] rfl)
def m_XD_draw_100 (Z : tc_S → Int32 → Int32 → Int32 → Int32 → Option (tc_S)) (σ : tc_S) (l1 l2 l3 l4 k0 : Int32) : Option (tc_S) := (if k0 = 0 then (m_XD_draw_127 Z σ l1 l2 l3 l4 l3 ((l1 * 16) + l4)) else (m_XD_draw_127 Z σ l1 l2 l3 l4 (k0 &&& 15) ((l1 * 16) + l4)))
set_option maxHeartbeats 4000000 in
set_option maxRecDepth 100000 in
theorem w_XD_draw_100 (C : tc_C p s m args meth c RXD cXD_draw 6 none D cA) (hJ : ∀ σ, va_D A (tc_cW ad cA σ)) {q : tc_S} {Z : tc_S → Int32 → Int32 → Int32 → Int32 → Option (tc_S)} (hZ : ∀ {σ : tc_S} {l1 l2 l3 l4 : Int32} {H : Heap} {locs : List Loc} {ls : Array Slot}, Z σ l1 l2 l3 l4 = some q → va_P D vwCl (tc_cW ad cA σ) H → va_S A s.heap H locs → lv_has ls 6 [(0, .ref (ad 5)), (1, .int l1), (2, .int l2), (3, .int l3), (4, .int l4)] → W p l e (tc_R 4) s m args below meth c H locs 0 0 (MQ below (tc_Qv D (tc_cW ad cA q) A) args s 0 0 A) (F0 m 61 ls [])) {σ : tc_S} {l1 l2 l3 l4 k0 : Int32} {H : Heap} {locs : List Loc} {ls : Array Slot} (h : m_XD_draw_100 Z σ l1 l2 l3 l4 k0 = some q) (hP : va_P D vwCl (tc_cW ad cA σ) H) (hS : va_S A s.heap H locs) (hl : lv_has ls 6 [(0, .ref (ad 5)), (1, .int l1), (2, .int l2), (3, .int l3), (4, .int l4)]) : W p l e (tc_R 4) s m args below meth c H locs 0 0 (MQ below (tc_Qv D (tc_cW ad cA q) A) args s 0 0 A) (F0 m 100 ls [.int k0]) := by
  have C0 := C
  obtain ⟨hx, hb, hml, hown, ⟨hK, hN⟩, hr, hlk⟩ := C
  unfold m_XD_draw_100 at h
  refine lv_istore (lv' := [(5, .int k0), (0, .ref (ad 5)), (1, .int l1), (2, .int l2), (3, .int l3), (4, .int l4)]) hx hb dXD_draw_100 hl (by decide) rfl (fun ls hl => ?_)
  refine lv_aload_n hx hb dXD_draw_102 rfl (lv_at hl 1 rfl) ?_
  refine tc_cr_XD_screen C0 hP (tc_use hN tw_127) dXD_draw_103 ?_
  refine lv_iload_n hx hb dXD_draw_106 rfl (lv_at hl 2 rfl) ?_
  refine lv_bipush (v := 16) hx hb dXD_draw_107 (by decide) ?_
  refine lv_imul hx hb dXD_draw_109 ?_
  refine lv_iload hx hb dXD_draw_110 (lv_at hl 5 rfl) ?_
  refine lv_iadd hx hb dXD_draw_112 ?_
  refine lv_iload hx hb dXD_draw_113 (lv_at hl 0 rfl) ?_
  refine lv_if_ne (tgt := 122) hx hb dXD_draw_115 (by decide) (fun hc => ?_) (fun hc => ?_)
  · have h := tc_in hc h
    refine lv_iload hx hb dXD_draw_122 (lv_at hl 0 rfl) ?_
    refine lv_bipush (v := 15) hx hb dXD_draw_124 (by decide) ?_
    refine lv_iand hx hb dXD_draw_126 ?_
    exact w_XD_draw_127 C0 hJ hZ h hP hS (lv_sub hl [1, 2, 3, 4, 5] rfl)
  · have h := tc_ip hc h
    refine lv_iload_n hx hb dXD_draw_118 rfl (lv_at hl 4 rfl) ?_
    refine lv_goto (tgt := 127) hx hb dXD_draw_119 (by decide) ?_
    exact w_XD_draw_127 C0 hJ hZ h hP hS (lv_sub hl [1, 2, 3, 4, 5] rfl)
def m_XD_draw_61 : Nat → tc_S → Int32 → Int32 → Int32 → Int32 → Option (tc_S)
  | 0, _, _, _, _, _ => none
  | n + 1, σ, l1, l2, l3, l4 => (if 16 ≤ l4 then (some σ) else (if l2 = 0 then (m_XD_draw_100 (m_XD_draw_61 n) σ l1 l2 l3 l4 0) else (tc_gd l4 16 (tc_gd l4 16 (tc_gd l4 16 ((m_XD_foremost σ (tc_ga σ 11 l4) (tc_ga σ 9 l4) (tc_ga σ 10 l4)).bind (fun q93 => (m_XD_draw_100 (m_XD_draw_61 n) q93.2 l1 l2 l3 l4 q93.1))))))))
set_option maxHeartbeats 4000000 in
set_option maxRecDepth 100000 in
theorem w_XD_draw_61 (C : tc_C p s m args meth c RXD cXD_draw 6 none D cA) (hJ : ∀ σ, va_D A (tc_cW ad cA σ)) {q : tc_S} : ∀ (n : Nat) {σ : tc_S} {l1 l2 l3 l4 : Int32} {H : Heap} {locs : List Loc} {ls : Array Slot} (h : m_XD_draw_61 n σ l1 l2 l3 l4 = some q) (hP : va_P D vwCl (tc_cW ad cA σ) H) (hS : va_S A s.heap H locs) (hl : lv_has ls 6 [(0, .ref (ad 5)), (1, .int l1), (2, .int l2), (3, .int l3), (4, .int l4)]), W p l e (tc_R 4) s m args below meth c H locs 0 0 (MQ below (tc_Qv D (tc_cW ad cA q) A) args s 0 0 A) (F0 m 61 ls []) := by
  have C0 := C
  obtain ⟨hx, hb, hml, hown, ⟨hK, hN⟩, hr, hlk⟩ := C
  intro n
  induction n with
  | zero =>
    intro σ l1 l2 l3 l4 H locs ls h hP hS hl
    exact absurd h (by simp [m_XD_draw_61])
  | succ n ih =>
    intro σ l1 l2 l3 l4 H locs ls h hP hS hl
    unfold m_XD_draw_61 at h
    refine lv_iload hx hb dXD_draw_61 (lv_at hl 4 rfl) ?_
    refine lv_bipush (v := 16) hx hb dXD_draw_63 (by decide) ?_
    refine lv_icmp_ge (tgt := 134) hx hb dXD_draw_65 (by decide) (fun hc => ?_) (fun hc => ?_)
    · have h := tc_ip hc h
      exact tc_crv C0 hP hS h dXD_draw_134
    · have h := tc_in hc h
      refine lv_iload_n hx hb dXD_draw_68 rfl (lv_at hl 2 rfl) ?_
      refine lv_if_eq (tgt := 99) hx hb dXD_draw_69 (by decide) (fun hc => ?_) (fun hc => ?_)
      · have h := tc_ip hc h
        refine lv_iconst (v := 0) hx hb dXD_draw_99 (by decide) ?_
        exact w_XD_draw_100 C0 hJ (fun h hP hS hl => ih h hP hS hl) h hP hS (lv_sub hl [0, 1, 2, 3, 4] rfl)
      · have h := tc_in hc h
        refine lv_aload_n hx hb dXD_draw_72 rfl (lv_at hl 0 rfl) ?_
        refine tc_cr_XD_dotsOfSprites C0 hP (tc_use hN tw_131) dXD_draw_73 ?_
        refine lv_iload hx hb dXD_draw_76 (lv_at hl 4 rfl) ?_
        obtain ⟨hi, h⟩ := tc_gd_some h
        refine tc_cld18 C0 hP hi dXD_draw_78 ?_
        refine lv_aload_n hx hb dXD_draw_79 rfl (lv_at hl 0 rfl) ?_
        refine tc_cr_XD_dotsOfA C0 hP (tc_use hN tw_129) dXD_draw_80 ?_
        refine lv_iload hx hb dXD_draw_83 (lv_at hl 4 rfl) ?_
        obtain ⟨hi, h⟩ := tc_gd_some h
        refine tc_cld16 C0 hP hi dXD_draw_85 ?_
        refine lv_aload_n hx hb dXD_draw_86 rfl (lv_at hl 0 rfl) ?_
        refine tc_cr_XD_dotsOfB C0 hP (tc_use hN tw_130) dXD_draw_87 ?_
        refine lv_iload hx hb dXD_draw_90 (lv_at hl 4 rfl) ?_
        obtain ⟨hi, h⟩ := tc_gd_some h
        refine tc_cld17 C0 hP hi dXD_draw_92 ?_
        obtain ⟨q93, e93, h⟩ := tc_bd_some h
        refine tc_cSi (As := [.int (tc_ga σ 11 l4), .int (tc_ga σ 9 l4), .int (tc_ga σ 10 l4)]) (rest := []) C0 (k_XD_foremost hJ e93) tv_XD_43 (by decide) (by decide) hP hS hl (Nat.le_of_ble_eq_true rfl) dXD_draw_93 rfl (fun H locs hP hS => ?_)
        refine lv_goto (tgt := 100) hx hb dXD_draw_96 (by decide) ?_
        exact w_XD_draw_100 C0 hJ (fun h hP hS hl => ih h hP hS hl) h hP hS (lv_sub hl [0, 1, 2, 3, 4] rfl)
def m_XD_draw_47 (σ : tc_S) (l1 l2 : Int32) : Option (tc_S) := (tc_gd 7 16 (m_XD_draw_61 2000 σ l1 l2 ((tc_ga σ 5 7) &&& 15) 0))
set_option maxHeartbeats 4000000 in
set_option maxRecDepth 100000 in
theorem w_XD_draw_47 (C : tc_C p s m args meth c RXD cXD_draw 6 none D cA) (hJ : ∀ σ, va_D A (tc_cW ad cA σ)) {q : tc_S} {σ : tc_S} {l1 l2 : Int32} {H : Heap} {locs : List Loc} {ls : Array Slot} (h : m_XD_draw_47 σ l1 l2 = some q) (hP : va_P D vwCl (tc_cW ad cA σ) H) (hS : va_S A s.heap H locs) (hl : lv_has ls 6 [(0, .ref (ad 5)), (1, .int l1), (2, .int l2)]) : W p l e (tc_R 4) s m args below meth c H locs 0 0 (MQ below (tc_Qv D (tc_cW ad cA q) A) args s 0 0 A) (F0 m 47 ls []) := by
  have C0 := C
  obtain ⟨hx, hb, hml, hown, ⟨hK, hN⟩, hr, hlk⟩ := C
  unfold m_XD_draw_47 at h
  refine lv_aload_n hx hb dXD_draw_47 rfl (lv_at hl 0 rfl) ?_
  refine tc_cr_XD_registers C0 hP (tc_use hN tw_126) dXD_draw_48 ?_
  refine lv_bipush (v := 7) hx hb dXD_draw_51 (by decide) ?_
  obtain ⟨hi, h⟩ := tc_gd_some h
  refine tc_cld14 C0 hP hi dXD_draw_53 ?_
  refine lv_bipush (v := 15) hx hb dXD_draw_54 (by decide) ?_
  refine lv_iand hx hb dXD_draw_56 ?_
  refine lv_istore_n (lv' := [(3, .int ((tc_ga σ 5 7) &&& 15)), (0, .ref (ad 5)), (1, .int l1), (2, .int l2)]) hx hb dXD_draw_57 rfl hl (by decide) rfl (fun ls hl => ?_)
  refine lv_iconst (v := 0) hx hb dXD_draw_58 (by decide) ?_
  refine lv_istore (lv' := [(4, .int 0), (3, .int ((tc_ga σ 5 7) &&& 15)), (0, .ref (ad 5)), (1, .int l1), (2, .int l2)]) hx hb dXD_draw_59 hl (by decide) rfl (fun ls hl => ?_)
  exact w_XD_draw_61 C0 hJ _ h hP hS (lv_sub hl [2, 3, 4, 1, 0] rfl)
def m_XD_draw_17 (σ : tc_S) (l1 k0 : Int32) : Option (tc_S) := (if k0 = 0 then (m_XD_draw_47 σ l1 k0) else ((m_XD_drawPlane_a16 σ 0 l1).bind (fun q29 => ((m_XD_drawPlane_a17 q29 1 l1).bind (fun q39 => ((m_XD_drawSprites q39 l1).bind (fun q44 => (m_XD_draw_47 q44 l1 k0))))))))
set_option maxHeartbeats 4000000 in
set_option maxRecDepth 100000 in
theorem w_XD_draw_17 (C : tc_C p s m args meth c RXD cXD_draw 6 none D cA) (hJ : ∀ σ, va_D A (tc_cW ad cA σ)) {q : tc_S} {σ : tc_S} {l1 k0 : Int32} {H : Heap} {locs : List Loc} {ls : Array Slot} (h : m_XD_draw_17 σ l1 k0 = some q) (hP : va_P D vwCl (tc_cW ad cA σ) H) (hS : va_S A s.heap H locs) (hl : lv_has ls 6 [(0, .ref (ad 5)), (1, .int l1)]) : W p l e (tc_R 4) s m args below meth c H locs 0 0 (MQ below (tc_Qv D (tc_cW ad cA q) A) args s 0 0 A) (F0 m 17 ls [.int k0]) := by
  have C0 := C
  obtain ⟨hx, hb, hml, hown, ⟨hK, hN⟩, hr, hlk⟩ := C
  unfold m_XD_draw_17 at h
  refine lv_istore_n (lv' := [(2, .int k0), (0, .ref (ad 5)), (1, .int l1)]) hx hb dXD_draw_17 rfl hl (by decide) rfl (fun ls hl => ?_)
  refine lv_iload_n hx hb dXD_draw_18 rfl (lv_at hl 0 rfl) ?_
  refine lv_if_eq (tgt := 47) hx hb dXD_draw_19 (by decide) (fun hc => ?_) (fun hc => ?_)
  · have h := tc_ip hc h
    exact w_XD_draw_47 C0 hJ h hP hS (lv_sub hl [1, 2, 0] rfl)
  · have h := tc_in hc h
    refine lv_aload_n hx hb dXD_draw_22 rfl (lv_at hl 1 rfl) ?_
    refine lv_aload_n hx hb dXD_draw_23 rfl (lv_at hl 1 rfl) ?_
    refine tc_cr_XD_dotsOfA C0 hP (tc_use hN tw_129) dXD_draw_24 ?_
    refine lv_iconst (v := 0) hx hb dXD_draw_27 (by decide) ?_
    refine lv_iload_n hx hb dXD_draw_28 rfl (lv_at hl 2 rfl) ?_
    obtain ⟨q29, e29, h⟩ := tc_bd_some h
    refine tc_cVv (As := [.ref (ad 16), .int 0, .int l1]) (rest := []) C0 (k_XD_drawPlane_a16 hJ e29) tv_XD_35 (by decide) (by decide) hP hS hl 5 rfl rfl (Nat.le_of_ble_eq_true rfl) dXD_draw_29 rfl (fun H locs hP hS => ?_)
    refine lv_aload_n hx hb dXD_draw_32 rfl (lv_at hl 1 rfl) ?_
    refine lv_aload_n hx hb dXD_draw_33 rfl (lv_at hl 1 rfl) ?_
    refine tc_cr_XD_dotsOfB C0 hP (tc_use hN tw_130) dXD_draw_34 ?_
    refine lv_iconst (v := 1) hx hb dXD_draw_37 (by decide) ?_
    refine lv_iload_n hx hb dXD_draw_38 rfl (lv_at hl 2 rfl) ?_
    obtain ⟨q39, e39, h⟩ := tc_bd_some h
    refine tc_cVv (As := [.ref (ad 17), .int 1, .int l1]) (rest := []) C0 (k_XD_drawPlane_a17 hJ e39) tv_XD_35 (by decide) (by decide) hP hS hl 5 rfl rfl (Nat.le_of_ble_eq_true rfl) dXD_draw_39 rfl (fun H locs hP hS => ?_)
    refine lv_aload_n hx hb dXD_draw_42 rfl (lv_at hl 1 rfl) ?_
    refine lv_iload_n hx hb dXD_draw_43 rfl (lv_at hl 2 rfl) ?_
    obtain ⟨q44, e44, h⟩ := tc_bd_some h
    refine tc_cVv (As := [.int l1]) (rest := []) C0 (k_XD_drawSprites hJ e44) tv_XD_39 (by decide) (by decide) hP hS hl 5 rfl rfl (Nat.le_of_ble_eq_true rfl) dXD_draw_44 rfl (fun H locs hP hS => ?_)
    exact w_XD_draw_47 C0 hJ h hP hS (lv_sub hl [1, 2, 0] rfl)
def m_XD_draw (σ : tc_S) (l1 : Int32) : Option (tc_S) := (tc_gd 1 16 (if ((tc_ga σ 5 1) &&& 64) = 0 then (m_XD_draw_17 σ l1 0) else (m_XD_draw_17 σ l1 1)))
set_option maxHeartbeats 4000000 in
set_option maxRecDepth 100000 in
theorem w_XD_draw_0 (C : tc_C p s m args meth c RXD cXD_draw 6 none D cA) (hJ : ∀ σ, va_D A (tc_cW ad cA σ)) {q : tc_S} {σ : tc_S} {l1 : Int32} {H : Heap} {locs : List Loc} {ls : Array Slot} (h : m_XD_draw σ l1 = some q) (hP : va_P D vwCl (tc_cW ad cA σ) H) (hS : va_S A s.heap H locs) (hl : lv_has ls 6 [(0, .ref (ad 5)), (1, .int l1)]) : W p l e (tc_R 4) s m args below meth c H locs 0 0 (MQ below (tc_Qv D (tc_cW ad cA q) A) args s 0 0 A) (F0 m 0 ls []) := by
  have C0 := C
  obtain ⟨hx, hb, hml, hown, ⟨hK, hN⟩, hr, hlk⟩ := C
  unfold m_XD_draw at h
  refine lv_aload_n hx hb dXD_draw_0 rfl (lv_at hl 0 rfl) ?_
  refine tc_cr_XD_registers C0 hP (tc_use hN tw_126) dXD_draw_1 ?_
  refine lv_iconst (v := 1) hx hb dXD_draw_4 (by decide) ?_
  obtain ⟨hi, h⟩ := tc_gd_some h
  refine tc_cld14 C0 hP hi dXD_draw_5 ?_
  refine lv_bipush (v := 64) hx hb dXD_draw_6 (by decide) ?_
  refine lv_iand hx hb dXD_draw_8 ?_
  refine lv_if_eq (tgt := 16) hx hb dXD_draw_9 (by decide) (fun hc => ?_) (fun hc => ?_)
  · have h := tc_ip hc h
    refine lv_iconst (v := 0) hx hb dXD_draw_16 (by decide) ?_
    exact w_XD_draw_17 C0 hJ h hP hS (lv_sub hl [0, 1] rfl)
  · have h := tc_in hc h
    refine lv_iconst (v := 1) hx hb dXD_draw_12 (by decide) ?_
    refine lv_goto (tgt := 17) hx hb dXD_draw_13 (by decide) ?_
    exact w_XD_draw_17 C0 hJ h hP hS (lv_sub hl [0, 1] rfl)
theorem k_XD_draw (hJ : ∀ σ, va_D A (tc_cW ad cA σ)) {σ : tc_S} {l1 : Int32} {q : tc_S} (h : m_XD_draw σ l1 = some q) : Met l yXD_draw [.code yXD_draw cXD_draw 6 none] (tc_R 4) (tc_Pc D cA (tc_cW ad cA σ) [.ref (ad 5), .int l1]) (tc_Qv D (tc_cW ad cA q) A) 0 0 A :=
  tc_met (by decide) (Nat.le_of_ble_eq_true rfl) (fun _ _ _ _ _ _ _ C hP _ hl => w_XD_draw_0 C hJ h hP va_S.rf hl)
def m_XB_countDown_60 (σ : tc_S) (k0 : Int32) : Option (tc_S) := (tc_gb k0 (some (tc_sf σ 30 k0)))
set_option maxHeartbeats 4000000 in
set_option maxRecDepth 100000 in
theorem w_XB_countDown_60 (C : tc_C p s m args meth c RXB cXB_countDown 1 none D cA) (hJ : ∀ σ, va_D A (tc_cW ad cA σ)) {q : tc_S} {σ : tc_S} {k0 : Int32} {H : Heap} {locs : List Loc} {ls : Array Slot} (h : m_XB_countDown_60 σ k0 = some q) (hP : va_P D vwCl (tc_cW ad cA σ) H) (hS : va_S A s.heap H locs) (hl : lv_has ls 1 []) : W p l e (tc_R 0) s m args below meth c H locs 0 0 (MQ below (tc_Qv D (tc_cW ad cA q) A) args s 0 0 A) (F0 m 60 ls [.int k0, .ref (ad 4)]) := by
  have C0 := C
  obtain ⟨hx, hb, hml, hown, ⟨hK, hN⟩, hr, hlk⟩ := C
  unfold m_XB_countDown_60 at h
  obtain ⟨hz, h⟩ := tc_gb_some h
  refine tc_cp30 C0 hJ hP hS (tc_use hN tw_170) hz dXB_countDown_60 (fun H locs hP hS => ?_)
  exact tc_crv C0 hP hS h dXB_countDown_63
def m_XB_countDown_55 (σ : tc_S) : Option (tc_S) := (m_XB_countDown_60 σ 1)
set_option maxHeartbeats 4000000 in
set_option maxRecDepth 100000 in
theorem w_XB_countDown_55 (C : tc_C p s m args meth c RXB cXB_countDown 1 none D cA) (hJ : ∀ σ, va_D A (tc_cW ad cA σ)) {q : tc_S} {σ : tc_S} {H : Heap} {locs : List Loc} {ls : Array Slot} (h : m_XB_countDown_55 σ = some q) (hP : va_P D vwCl (tc_cW ad cA σ) H) (hS : va_S A s.heap H locs) (hl : lv_has ls 1 []) : W p l e (tc_R 0) s m args below meth c H locs 0 0 (MQ below (tc_Qv D (tc_cW ad cA q) A) args s 0 0 A) (F0 m 55 ls [.ref (ad 4)]) := by
  have C0 := C
  obtain ⟨hx, hb, hml, hown, ⟨hK, hN⟩, hr, hlk⟩ := C
  unfold m_XB_countDown_55 at h
  refine lv_iconst (v := 1) hx hb dXB_countDown_55 (by decide) ?_
  refine lv_goto (tgt := 60) hx hb dXB_countDown_56 (by decide) ?_
  exact w_XB_countDown_60 C0 hJ h hP hS (lv_sub hl [] rfl)
def m_XB_countDown (σ : tc_S) : Option (tc_S) := (if (tc_gf σ 29) ≤ 0 then (tc_gd 8 16 (if (tc_gf (tc_sf σ 29 (tc_ga σ 5 8)) 30) = 0 then (tc_gd 0 16 (if ((tc_ga (tc_sf σ 29 (tc_ga σ 5 8)) 5 0) &&& 16) = 0 then (m_XB_countDown_60 (tc_sf σ 29 (tc_ga σ 5 8)) 0) else (m_XB_countDown_55 (tc_sf σ 29 (tc_ga σ 5 8))))) else (m_XB_countDown_55 (tc_sf σ 29 (tc_ga σ 5 8))))) else (some (tc_sf σ 29 ((tc_gf σ 29) - 1))))
set_option maxHeartbeats 4000000 in
set_option maxRecDepth 100000 in
theorem w_XB_countDown_0 (C : tc_C p s m args meth c RXB cXB_countDown 1 none D cA) (hJ : ∀ σ, va_D A (tc_cW ad cA σ)) {q : tc_S} {σ : tc_S} {H : Heap} {locs : List Loc} {ls : Array Slot} (h : m_XB_countDown σ = some q) (hP : va_P D vwCl (tc_cW ad cA σ) H) (hS : va_S A s.heap H locs) (hl : lv_has ls 1 [(0, .ref (ad 4))]) : W p l e (tc_R 0) s m args below meth c H locs 0 0 (MQ below (tc_Qv D (tc_cW ad cA q) A) args s 0 0 A) (F0 m 0 ls []) := by
  have C0 := C
  obtain ⟨hx, hb, hml, hown, ⟨hK, hN⟩, hr, hlk⟩ := C
  unfold m_XB_countDown at h
  refine lv_aload_n hx hb dXB_countDown_0 rfl (lv_at hl 0 rfl) ?_
  refine tc_cg29 C0 hP (tc_use hN tw_169) dXB_countDown_1 ?_
  refine lv_if_le (tgt := 18) hx hb dXB_countDown_4 (by decide) (fun hc => ?_) (fun hc => ?_)
  · have h := tc_ip hc h
    refine lv_aload_n hx hb dXB_countDown_18 rfl (lv_at hl 0 rfl) ?_
    refine lv_aload_n hx hb dXB_countDown_19 rfl (lv_at hl 0 rfl) ?_
    refine tc_cr_XB_picture C0 hP (tc_use hN tw_162) dXB_countDown_20 ?_
    refine tc_crN_XP_registers C0 hP (tc_use hN tw_85) dXB_countDown_23 ?_
    refine lv_bipush (v := 8) hx hb dXB_countDown_26 (by decide) ?_
    obtain ⟨hi, h⟩ := tc_gd_some h
    refine tc_cld14 C0 hP hi dXB_countDown_28 ?_
    refine tc_cp29 C0 hJ hP hS (tc_use hN tw_169) dXB_countDown_29 (fun H locs hP hS => ?_)
    refine lv_aload_n hx hb dXB_countDown_32 rfl (lv_at hl 0 rfl) ?_
    refine lv_aload_n hx hb dXB_countDown_33 rfl (lv_at hl 0 rfl) ?_
    refine tc_cg30 C0 hP (tc_use hN tw_170) dXB_countDown_34 ?_
    refine lv_if_ne (tgt := 55) hx hb dXB_countDown_37 (by decide) (fun hc => ?_) (fun hc => ?_)
    · have h := tc_in hc h
      exact w_XB_countDown_55 C0 hJ h hP hS (lv_sub hl [] rfl)
    · have h := tc_ip hc h
      refine lv_aload_n hx hb dXB_countDown_40 rfl (lv_at hl 0 rfl) ?_
      refine tc_cr_XB_picture C0 hP (tc_use hN tw_162) dXB_countDown_41 ?_
      refine tc_crN_XP_registers C0 hP (tc_use hN tw_85) dXB_countDown_44 ?_
      refine lv_iconst (v := 0) hx hb dXB_countDown_47 (by decide) ?_
      obtain ⟨hi, h⟩ := tc_gd_some h
      refine tc_cld14 C0 hP hi dXB_countDown_48 ?_
      refine lv_bipush (v := 16) hx hb dXB_countDown_49 (by decide) ?_
      refine lv_iand hx hb dXB_countDown_51 ?_
      refine lv_if_eq (tgt := 59) hx hb dXB_countDown_52 (by decide) (fun hc => ?_) (fun hc => ?_)
      · have h := tc_ip hc h
        refine lv_iconst (v := 0) hx hb dXB_countDown_59 (by decide) ?_
        exact w_XB_countDown_60 C0 hJ h hP hS (lv_sub hl [] rfl)
      · have h := tc_in hc h
        exact w_XB_countDown_55 C0 hJ h hP hS (lv_sub hl [] rfl)
  · have h := tc_in hc h
    refine lv_aload_n hx hb dXB_countDown_7 rfl (lv_at hl 0 rfl) ?_
    refine lv_dup hx hb dXB_countDown_8 rfl ?_
    refine tc_cg29 C0 hP (tc_use hN tw_169) dXB_countDown_9 ?_
    refine lv_iconst (v := 1) hx hb dXB_countDown_12 (by decide) ?_
    refine lv_isub hx hb dXB_countDown_13 ?_
    refine tc_cp29 C0 hJ hP hS (tc_use hN tw_169) dXB_countDown_14 (fun H locs hP hS => ?_)
    exact tc_crv C0 hP hS h dXB_countDown_17
theorem k_XB_countDown (hJ : ∀ σ, va_D A (tc_cW ad cA σ)) {σ : tc_S} {q : tc_S} (h : m_XB_countDown σ = some q) : Met l yXB_countDown [.code yXB_countDown cXB_countDown 1 none] (tc_R 0) (tc_Pc D cA (tc_cW ad cA σ) [.ref (ad 4)]) (tc_Qv D (tc_cW ad cA q) A) 0 0 A :=
  tc_met (by decide) (Nat.le_of_ble_eq_true rfl) (fun _ _ _ _ _ _ _ C hP _ hl => w_XB_countDown_0 C hJ h hP va_S.rf hl)
def m_XB_goOn_74 (Z : tc_S → Int32 → Int32 → Option (tc_S)) (σ : tc_S) (l2 l3 : Int32) : Option (tc_S) := (Z σ l2 (l3 + 1))
set_option maxHeartbeats 4000000 in
set_option maxRecDepth 100000 in
theorem w_XB_goOn_74 (C : tc_C p s m args meth c RXB cXB_goOn 4 none D cA) (hJ : ∀ σ, va_D A (tc_cW ad cA σ)) {q : tc_S} {Z : tc_S → Int32 → Int32 → Option (tc_S)} (hZ : ∀ {σ : tc_S} {l2 l3 : Int32} {H : Heap} {locs : List Loc} {ls : Array Slot}, Z σ l2 l3 = some q → va_P D vwCl (tc_cW ad cA σ) H → va_S A s.heap H locs → lv_has ls 4 [(0, .ref (ad 4)), (2, .int l2), (3, .int l3)] → W p l e (tc_R 5) s m args below meth c H locs 0 0 (MQ below (tc_Qv D (tc_cW ad cA q) A) args s 0 0 A) (F0 m 25 ls [])) {σ : tc_S} {l2 l3 : Int32} {H : Heap} {locs : List Loc} {ls : Array Slot} (h : m_XB_goOn_74 Z σ l2 l3 = some q) (hP : va_P D vwCl (tc_cW ad cA σ) H) (hS : va_S A s.heap H locs) (hl : lv_has ls 4 [(0, .ref (ad 4)), (2, .int l2), (3, .int l3)]) : W p l e (tc_R 5) s m args below meth c H locs 0 0 (MQ below (tc_Qv D (tc_cW ad cA q) A) args s 0 0 A) (F0 m 74 ls []) := by
  have C0 := C
  obtain ⟨hx, hb, hml, hown, ⟨hK, hN⟩, hr, hlk⟩ := C
  unfold m_XB_goOn_74 at h
  refine lv_iinc (k := 2) (v := (l3 + 1)) (lv' := [(3, .int (l3 + 1)), (0, .ref (ad 4)), (2, .int l2)]) hx hb dXB_goOn_74 hl rfl rfl (by decide) rfl (fun ls hl => ?_)
  refine lv_goto (tgt := 25) hx hb dXB_goOn_77 (by decide) ?_
  exact hZ h hP hS (lv_sub hl [1, 2, 0] rfl)
def m_XB_goOn_25 : Nat → tc_S → Int32 → Int32 → Option (tc_S)
  | 0, _, _, _ => none
  | n + 1, σ, l2, l3 => (if l2 ≤ l3 then (some σ) else (if 8 ≤ (tc_gf (tc_sf σ 27 (((tc_gf σ 27) + 1) - ((tc_gf σ 27) + 1) / 12 * 12)) 27) then ((m_XB_beginHiddenLine (tc_sf σ 27 (((tc_gf σ 27) + 1) - ((tc_gf σ 27) + 1) / 12 * 12))).bind (fun q71 => (m_XB_goOn_74 (m_XB_goOn_25 n) q71 l2 l3))) else ((m_XD_draw (tc_sf σ 27 (((tc_gf σ 27) + 1) - ((tc_gf σ 27) + 1) / 12 * 12)) (tc_gf (tc_sf σ 27 (((tc_gf σ 27) + 1) - ((tc_gf σ 27) + 1) / 12 * 12)) 27)).bind (fun q60 => ((m_XB_countDown q60).bind (fun q64 => (m_XB_goOn_74 (m_XB_goOn_25 n) q64 l2 l3)))))))
set_option maxHeartbeats 4000000 in
set_option maxRecDepth 100000 in
theorem w_XB_goOn_25 (C : tc_C p s m args meth c RXB cXB_goOn 4 none D cA) (hJ : ∀ σ, va_D A (tc_cW ad cA σ)) {q : tc_S} : ∀ (n : Nat) {σ : tc_S} {l2 l3 : Int32} {H : Heap} {locs : List Loc} {ls : Array Slot} (h : m_XB_goOn_25 n σ l2 l3 = some q) (hP : va_P D vwCl (tc_cW ad cA σ) H) (hS : va_S A s.heap H locs) (hl : lv_has ls 4 [(0, .ref (ad 4)), (2, .int l2), (3, .int l3)]), W p l e (tc_R 5) s m args below meth c H locs 0 0 (MQ below (tc_Qv D (tc_cW ad cA q) A) args s 0 0 A) (F0 m 25 ls []) := by
  have C0 := C
  obtain ⟨hx, hb, hml, hown, ⟨hK, hN⟩, hr, hlk⟩ := C
  intro n
  induction n with
  | zero =>
    intro σ l2 l3 H locs ls h hP hS hl
    exact absurd h (by simp [m_XB_goOn_25])
  | succ n ih =>
    intro σ l2 l3 H locs ls h hP hS hl
    unfold m_XB_goOn_25 at h
    refine lv_iload_n hx hb dXB_goOn_25 rfl (lv_at hl 2 rfl) ?_
    refine lv_iload_n hx hb dXB_goOn_26 rfl (lv_at hl 1 rfl) ?_
    refine lv_icmp_ge (tgt := 80) hx hb dXB_goOn_27 (by decide) (fun hc => ?_) (fun hc => ?_)
    · have h := tc_ip hc h
      exact tc_crv C0 hP hS h dXB_goOn_80
    · have h := tc_in hc h
      refine lv_aload_n hx hb dXB_goOn_30 rfl (lv_at hl 0 rfl) ?_
      refine lv_aload_n hx hb dXB_goOn_31 rfl (lv_at hl 0 rfl) ?_
      refine tc_cg27 C0 hP (tc_use hN tw_166) dXB_goOn_32 ?_
      refine lv_iconst (v := 1) hx hb dXB_goOn_35 (by decide) ?_
      refine lv_iadd hx hb dXB_goOn_36 ?_
      refine lv_bipush (v := 12) hx hb dXB_goOn_37 (by decide) ?_
      refine lv_irem hx hb dXB_goOn_39 (by decide) ?_
      refine tc_cp27 C0 hJ hP hS (tc_use hN tw_166) dXB_goOn_40 (fun H locs hP hS => ?_)
      refine lv_aload_n hx hb dXB_goOn_43 rfl (lv_at hl 0 rfl) ?_
      refine tc_cg27 C0 hP (tc_use hN tw_166) dXB_goOn_44 ?_
      refine lv_bipush (v := 8) hx hb dXB_goOn_47 (by decide) ?_
      refine lv_icmp_ge (tgt := 70) hx hb dXB_goOn_49 (by decide) (fun hc => ?_) (fun hc => ?_)
      · have h := tc_ip hc h
        refine lv_aload_n hx hb dXB_goOn_70 rfl (lv_at hl 0 rfl) ?_
        obtain ⟨q71, e71, h⟩ := tc_bd_some h
        refine tc_cVv (As := []) (rest := []) C0 (k_XB_beginHiddenLine hJ e71) tv_XB_44 (by decide) (by decide) hP hS hl 4 rfl rfl (Nat.le_of_ble_eq_true rfl) dXB_goOn_71 rfl (fun H locs hP hS => ?_)
        exact w_XB_goOn_74 C0 hJ (fun h hP hS hl => ih h hP hS hl) h hP hS (lv_sub hl [0, 1, 2] rfl)
      · have h := tc_in hc h
        refine lv_aload_n hx hb dXB_goOn_52 rfl (lv_at hl 0 rfl) ?_
        refine tc_cr_XB_painter C0 hP (tc_use hN tw_163) dXB_goOn_53 ?_
        refine lv_aload_n hx hb dXB_goOn_56 rfl (lv_at hl 0 rfl) ?_
        refine tc_cg27 C0 hP (tc_use hN tw_166) dXB_goOn_57 ?_
        obtain ⟨q60, e60, h⟩ := tc_bd_some h
        refine tc_cVv (As := [.int (tc_gf (tc_sf σ 27 (((tc_gf σ 27) + 1) - ((tc_gf σ 27) + 1) / 12 * 12)) 27)]) (rest := []) C0 (k_XD_draw hJ e60) tv_XB_37 (by decide) (by decide) hP hS hl 5 rfl rfl (Nat.le_of_ble_eq_true rfl) dXB_goOn_60 rfl (fun H locs hP hS => ?_)
        refine lv_aload_n hx hb dXB_goOn_63 rfl (lv_at hl 0 rfl) ?_
        obtain ⟨q64, e64, h⟩ := tc_bd_some h
        refine tc_cVv (As := []) (rest := []) C0 (k_XB_countDown hJ e64) tv_XB_41 (by decide) (by decide) hP hS hl 4 rfl rfl (Nat.le_of_ble_eq_true rfl) dXB_goOn_64 rfl (fun H locs hP hS => ?_)
        refine lv_goto (tgt := 74) hx hb dXB_goOn_67 (by decide) ?_
        exact w_XB_goOn_74 C0 hJ (fun h hP hS hl => ih h hP hS hl) h hP hS (lv_sub hl [0, 1, 2] rfl)
def m_XB_goOn (σ : tc_S) (l1 : Int32) : Option (tc_S) := (m_XB_goOn_25 20000000 (tc_sf σ 28 (((tc_gf σ 28) + l1) - ((tc_gf σ 28) + l1) / 64 * 64)) (((tc_gf σ 28) + l1) / 64) 0)
set_option maxHeartbeats 4000000 in
set_option maxRecDepth 100000 in
theorem w_XB_goOn_0 (C : tc_C p s m args meth c RXB cXB_goOn 4 none D cA) (hJ : ∀ σ, va_D A (tc_cW ad cA σ)) {q : tc_S} {σ : tc_S} {l1 : Int32} {H : Heap} {locs : List Loc} {ls : Array Slot} (h : m_XB_goOn σ l1 = some q) (hP : va_P D vwCl (tc_cW ad cA σ) H) (hS : va_S A s.heap H locs) (hl : lv_has ls 4 [(0, .ref (ad 4)), (1, .int l1)]) : W p l e (tc_R 5) s m args below meth c H locs 0 0 (MQ below (tc_Qv D (tc_cW ad cA q) A) args s 0 0 A) (F0 m 0 ls []) := by
  have C0 := C
  obtain ⟨hx, hb, hml, hown, ⟨hK, hN⟩, hr, hlk⟩ := C
  unfold m_XB_goOn at h
  refine lv_aload_n hx hb dXB_goOn_0 rfl (lv_at hl 0 rfl) ?_
  refine tc_cg28 C0 hP (tc_use hN tw_168) dXB_goOn_1 ?_
  refine lv_iload_n hx hb dXB_goOn_4 rfl (lv_at hl 1 rfl) ?_
  refine lv_iadd hx hb dXB_goOn_5 ?_
  refine lv_bipush (v := 64) hx hb dXB_goOn_6 (by decide) ?_
  refine lv_idiv hx hb dXB_goOn_8 (by decide) ?_
  refine lv_istore_n (lv' := [(2, .int (((tc_gf σ 28) + l1) / 64)), (0, .ref (ad 4)), (1, .int l1)]) hx hb dXB_goOn_9 rfl hl (by decide) rfl (fun ls hl => ?_)
  refine lv_aload_n hx hb dXB_goOn_10 rfl (lv_at hl 1 rfl) ?_
  refine lv_aload_n hx hb dXB_goOn_11 rfl (lv_at hl 1 rfl) ?_
  refine tc_cg28 C0 hP (tc_use hN tw_168) dXB_goOn_12 ?_
  refine lv_iload_n hx hb dXB_goOn_15 rfl (lv_at hl 2 rfl) ?_
  refine lv_iadd hx hb dXB_goOn_16 ?_
  refine lv_bipush (v := 64) hx hb dXB_goOn_17 (by decide) ?_
  refine lv_irem hx hb dXB_goOn_19 (by decide) ?_
  refine tc_cp28 C0 hJ hP hS (tc_use hN tw_168) dXB_goOn_20 (fun H locs hP hS => ?_)
  refine lv_iconst (v := 0) hx hb dXB_goOn_23 (by decide) ?_
  refine lv_istore_n (lv' := [(3, .int 0), (2, .int (((tc_gf σ 28) + l1) / 64)), (0, .ref (ad 4)), (1, .int l1)]) hx hb dXB_goOn_24 rfl hl (by decide) rfl (fun ls hl => ?_)
  exact w_XB_goOn_25 C0 hJ _ h hP hS (lv_sub hl [2, 1, 0] rfl)
theorem k_XB_goOn (hJ : ∀ σ, va_D A (tc_cW ad cA σ)) {σ : tc_S} {l1 : Int32} {q : tc_S} (h : m_XB_goOn σ l1 = some q) : Met l yXB_goOn [.code yXB_goOn cXB_goOn 4 none] (tc_R 5) (tc_Pc D cA (tc_cW ad cA σ) [.ref (ad 4), .int l1]) (tc_Qv D (tc_cW ad cA q) A) 0 0 A :=
  tc_met (by decide) (Nat.le_of_ble_eq_true rfl) (fun _ _ _ _ _ _ _ C hP _ hl => w_XB_goOn_0 C hJ h hP va_S.rf hl)
def m_XB_takePending_19 (σ : tc_S) : Option (tc_S) := (some σ)
set_option maxHeartbeats 4000000 in
set_option maxRecDepth 100000 in
theorem w_XB_takePending_19 (C : tc_C p s m args meth c RXB cXB_takePending 2 none D cA) (hJ : ∀ σ, va_D A (tc_cW ad cA σ)) {q : tc_S} {σ : tc_S} {H : Heap} {locs : List Loc} {ls : Array Slot} (h : m_XB_takePending_19 σ = some q) (hP : va_P D vwCl (tc_cW ad cA σ) H) (hS : va_S A s.heap H locs) (hl : lv_has ls 2 []) : W p l e (tc_R 0) s m args below meth c H locs 0 0 (MQ below (tc_Qv D (tc_cW ad cA q) A) args s 0 0 A) (F0 m 19 ls []) := by
  have C0 := C
  obtain ⟨hx, hb, hml, hown, ⟨hK, hN⟩, hr, hlk⟩ := C
  unfold m_XB_takePending_19 at h
  exact tc_crv C0 hP hS h dXB_takePending_19
def m_XB_takePending (σ : tc_S) (l1 : Int32) : Option (tc_S) := (if l1 = 6 then (m_XB_takePending_19 (tc_sf σ 31 0)) else (m_XB_takePending_19 (tc_sf σ 30 0)))
set_option maxHeartbeats 4000000 in
set_option maxRecDepth 100000 in
theorem w_XB_takePending_0 (C : tc_C p s m args meth c RXB cXB_takePending 2 none D cA) (hJ : ∀ σ, va_D A (tc_cW ad cA σ)) {q : tc_S} {σ : tc_S} {l1 : Int32} {H : Heap} {locs : List Loc} {ls : Array Slot} (h : m_XB_takePending σ l1 = some q) (hP : va_P D vwCl (tc_cW ad cA σ) H) (hS : va_S A s.heap H locs) (hl : lv_has ls 2 [(0, .ref (ad 4)), (1, .int l1)]) : W p l e (tc_R 0) s m args below meth c H locs 0 0 (MQ below (tc_Qv D (tc_cW ad cA q) A) args s 0 0 A) (F0 m 0 ls []) := by
  have C0 := C
  obtain ⟨hx, hb, hml, hown, ⟨hK, hN⟩, hr, hlk⟩ := C
  unfold m_XB_takePending at h
  refine lv_iload_n hx hb dXB_takePending_0 rfl (lv_at hl 1 rfl) ?_
  refine lv_bipush (v := 6) hx hb dXB_takePending_1 (by decide) ?_
  refine lv_icmp_ne (tgt := 14) hx hb dXB_takePending_3 (by decide) (fun hc => ?_) (fun hc => ?_)
  · have h := tc_in hc h
    refine lv_aload_n hx hb dXB_takePending_14 rfl (lv_at hl 0 rfl) ?_
    refine lv_iconst (v := 0) hx hb dXB_takePending_15 (by decide) ?_
    refine tc_cp30 C0 hJ hP hS (tc_use hN tw_170) ⟨by decide, by decide⟩ dXB_takePending_16 (fun H locs hP hS => ?_)
    exact w_XB_takePending_19 C0 hJ h hP hS (lv_sub hl [] rfl)
  · have h := tc_ip hc h
    refine lv_aload_n hx hb dXB_takePending_6 rfl (lv_at hl 0 rfl) ?_
    refine lv_iconst (v := 0) hx hb dXB_takePending_7 (by decide) ?_
    refine tc_cp31 C0 hJ hP hS (tc_use hN tw_172) ⟨by decide, by decide⟩ dXB_takePending_8 (fun H locs hP hS => ?_)
    refine lv_goto (tgt := 19) hx hb dXB_takePending_11 (by decide) ?_
    exact w_XB_takePending_19 C0 hJ h hP hS (lv_sub hl [] rfl)
theorem k_XB_takePending (hJ : ∀ σ, va_D A (tc_cW ad cA σ)) {σ : tc_S} {l1 : Int32} {q : tc_S} (h : m_XB_takePending σ l1 = some q) : Met l yXB_takePending [.code yXB_takePending cXB_takePending 2 none] (tc_R 0) (tc_Pc D cA (tc_cW ad cA σ) [.ref (ad 4), .int l1]) (tc_Qv D (tc_cW ad cA q) A) 0 0 A :=
  tc_met (by decide) (Nat.le_of_ble_eq_true rfl) (fun _ _ _ _ _ _ _ C hP _ hl => w_XB_takePending_0 C hJ h hP va_S.rf hl)
def m_XM_interrupt (σ : tc_S) (l1 : Int32) : Option (Int32 × tc_S) := ((m_XM_raise σ (24 + l1)).bind (fun q5 => (some (44, (tc_sf (tc_sf q5 2 l1) 7 0)))))
set_option maxHeartbeats 4000000 in
set_option maxRecDepth 100000 in
theorem w_XM_interrupt_0 (C : tc_C p s m args meth c RXM cXM_interrupt 2 (some .int) D cA) (hJ : ∀ σ, va_D A (tc_cW ad cA σ)) {q : Int32 × tc_S} {σ : tc_S} {l1 : Int32} {H : Heap} {locs : List Loc} {ls : Array Slot} (h : m_XM_interrupt σ l1 = some q) (hP : va_P D vwCl (tc_cW ad cA σ) H) (hS : va_S A s.heap H locs) (hl : lv_has ls 2 [(0, .ref (ad 1)), (1, .int l1)]) : W p l e (tc_R 5) s m args below meth c H locs 0 0 (MQ below (tc_Qi D (tc_cW ad cA q.2) A q.1) args s 0 0 A) (F0 m 0 ls []) := by
  have C0 := C
  obtain ⟨hx, hb, hml, hown, ⟨hK, hN⟩, hr, hlk⟩ := C
  unfold m_XM_interrupt at h
  refine lv_aload_n hx hb dXM_interrupt_0 rfl (lv_at hl 0 rfl) ?_
  refine lv_bipush (v := 24) hx hb dXM_interrupt_1 (by decide) ?_
  refine lv_iload_n hx hb dXM_interrupt_3 rfl (lv_at hl 1 rfl) ?_
  refine lv_iadd hx hb dXM_interrupt_4 ?_
  obtain ⟨q5, e5, h⟩ := tc_bd_some h
  refine tc_cVv (As := [.int (24 + l1)]) (rest := []) C0 (k_XM_raise hJ e5) tv_XM_53 (by decide) (by decide) hP hS hl 1 rfl rfl (Nat.le_of_ble_eq_true rfl) dXM_interrupt_5 rfl (fun H locs hP hS => ?_)
  refine lv_aload_n hx hb dXM_interrupt_8 rfl (lv_at hl 0 rfl) ?_
  refine lv_iload_n hx hb dXM_interrupt_9 rfl (lv_at hl 1 rfl) ?_
  refine tc_cp2 C0 hJ hP hS (tc_use hN tw_237) dXM_interrupt_10 (fun H locs hP hS => ?_)
  refine lv_aload_n hx hb dXM_interrupt_13 rfl (lv_at hl 0 rfl) ?_
  refine lv_iconst (v := 0) hx hb dXM_interrupt_14 (by decide) ?_
  refine tc_cp7 C0 hJ hP hS (tc_use hN tw_243) ⟨by decide, by decide⟩ dXM_interrupt_15 (fun H locs hP hS => ?_)
  refine lv_bipush (v := 44) hx hb dXM_interrupt_18 (by decide) ?_
  exact tc_cri C0 hP hS h dXM_interrupt_20
theorem k_XM_interrupt (hJ : ∀ σ, va_D A (tc_cW ad cA σ)) {σ : tc_S} {l1 : Int32} {q : Int32 × tc_S} (h : m_XM_interrupt σ l1 = some q) : Met l yXM_interrupt [.code yXM_interrupt cXM_interrupt 2 (some .int)] (tc_R 5) (tc_Pc D cA (tc_cW ad cA σ) [.ref (ad 1), .int l1]) (tc_Qi D (tc_cW ad cA q.2) A q.1) 0 0 A :=
  tc_met (by decide) (Nat.le_of_ble_eq_true rfl) (fun _ _ _ _ _ _ _ C hP _ hl => w_XM_interrupt_0 C hJ h hP va_S.rf hl)
def m_XP_takeMovedWord_48 (σ : tc_S) : Option (tc_S) := (some σ)
set_option maxHeartbeats 4000000 in
set_option maxRecDepth 100000 in
theorem w_XP_takeMovedWord_48 (C : tc_C p s m args meth c RXP cXP_takeMovedWord 2 none D cA) (hJ : ∀ σ, va_D A (tc_cW ad cA σ)) {q : tc_S} {σ : tc_S} {H : Heap} {locs : List Loc} {ls : Array Slot} (h : m_XP_takeMovedWord_48 σ = some q) (hP : va_P D vwCl (tc_cW ad cA σ) H) (hS : va_S A s.heap H locs) (hl : lv_has ls 2 []) : W p l e (tc_R 2) s m args below meth c H locs 0 0 (MQ below (tc_Qv D (tc_cW ad cA q) A) args s 0 0 A) (F0 m 48 ls []) := by
  have C0 := C
  obtain ⟨hx, hb, hml, hown, ⟨hK, hN⟩, hr, hlk⟩ := C
  unfold m_XP_takeMovedWord_48 at h
  exact tc_crv C0 hP hS h dXP_takeMovedWord_48
def m_XP_takeMovedWord (σ : tc_S) (l1 : Int32) : Option (tc_S) := ((m_XP_storeWord σ l1).bind (fun q2 => (if (tc_gf (tc_sf (tc_sf q2 24 (((tc_gf q2 24) &&& 64512) ||| (((tc_gf q2 24) + 2) &&& 1023))) 23 ((tc_gf (tc_sf q2 24 (((tc_gf q2 24) &&& 64512) ||| (((tc_gf q2 24) + 2) &&& 1023))) 23) - 1)) 23) = 0 then ((m_XP_endMove (tc_sf (tc_sf q2 24 (((tc_gf q2 24) &&& 64512) ||| (((tc_gf q2 24) + 2) &&& 1023))) 23 ((tc_gf (tc_sf q2 24 (((tc_gf q2 24) &&& 64512) ||| (((tc_gf q2 24) + 2) &&& 1023))) 23) - 1))).bind (fun q45 => (m_XP_takeMovedWord_48 q45))) else (m_XP_takeMovedWord_48 (tc_sf (tc_sf q2 24 (((tc_gf q2 24) &&& 64512) ||| (((tc_gf q2 24) + 2) &&& 1023))) 23 ((tc_gf (tc_sf q2 24 (((tc_gf q2 24) &&& 64512) ||| (((tc_gf q2 24) + 2) &&& 1023))) 23) - 1))))))
set_option maxHeartbeats 4000000 in
set_option maxRecDepth 100000 in
theorem w_XP_takeMovedWord_0 (C : tc_C p s m args meth c RXP cXP_takeMovedWord 2 none D cA) (hJ : ∀ σ, va_D A (tc_cW ad cA σ)) {q : tc_S} {σ : tc_S} {l1 : Int32} {H : Heap} {locs : List Loc} {ls : Array Slot} (h : m_XP_takeMovedWord σ l1 = some q) (hP : va_P D vwCl (tc_cW ad cA σ) H) (hS : va_S A s.heap H locs) (hl : lv_has ls 2 [(0, .ref (ad 3)), (1, .int l1)]) : W p l e (tc_R 2) s m args below meth c H locs 0 0 (MQ below (tc_Qv D (tc_cW ad cA q) A) args s 0 0 A) (F0 m 0 ls []) := by
  have C0 := C
  obtain ⟨hx, hb, hml, hown, ⟨hK, hN⟩, hr, hlk⟩ := C
  unfold m_XP_takeMovedWord at h
  refine lv_aload_n hx hb dXP_takeMovedWord_0 rfl (lv_at hl 0 rfl) ?_
  refine lv_iload_n hx hb dXP_takeMovedWord_1 rfl (lv_at hl 1 rfl) ?_
  obtain ⟨q2, e2, h⟩ := tc_bd_some h
  refine tc_cVv (As := [.int l1]) (rest := []) C0 (k_XP_storeWord hJ e2) tv_XP_56 (by decide) (by decide) hP hS hl 3 rfl rfl (Nat.le_of_ble_eq_true rfl) dXP_takeMovedWord_2 rfl (fun H locs hP hS => ?_)
  refine lv_aload_n hx hb dXP_takeMovedWord_5 rfl (lv_at hl 0 rfl) ?_
  refine lv_aload_n hx hb dXP_takeMovedWord_6 rfl (lv_at hl 0 rfl) ?_
  refine tc_cg24 C0 hP (tc_use hN tw_96) dXP_takeMovedWord_7 ?_
  refine lv_ldc (v := 64512) hx hb hown (tc_use hN tw_351) dXP_takeMovedWord_10 ?_
  refine lv_iand hx hb dXP_takeMovedWord_12 ?_
  refine lv_aload_n hx hb dXP_takeMovedWord_13 rfl (lv_at hl 0 rfl) ?_
  refine tc_cg24 C0 hP (tc_use hN tw_96) dXP_takeMovedWord_14 ?_
  refine lv_iconst (v := 2) hx hb dXP_takeMovedWord_17 (by decide) ?_
  refine lv_iadd hx hb dXP_takeMovedWord_18 ?_
  refine lv_sipush (v := 1023) hx hb dXP_takeMovedWord_19 (by decide) ?_
  refine lv_iand hx hb dXP_takeMovedWord_22 ?_
  refine lv_ior hx hb dXP_takeMovedWord_23 ?_
  refine tc_cp24 C0 hJ hP hS (tc_use hN tw_96) dXP_takeMovedWord_24 (fun H locs hP hS => ?_)
  refine lv_aload_n hx hb dXP_takeMovedWord_27 rfl (lv_at hl 0 rfl) ?_
  refine lv_dup hx hb dXP_takeMovedWord_28 rfl ?_
  refine tc_cg23 C0 hP (tc_use hN tw_95) dXP_takeMovedWord_29 ?_
  refine lv_iconst (v := 1) hx hb dXP_takeMovedWord_32 (by decide) ?_
  refine lv_isub hx hb dXP_takeMovedWord_33 ?_
  refine tc_cp23 C0 hJ hP hS (tc_use hN tw_95) dXP_takeMovedWord_34 (fun H locs hP hS => ?_)
  refine lv_aload_n hx hb dXP_takeMovedWord_37 rfl (lv_at hl 0 rfl) ?_
  refine tc_cg23 C0 hP (tc_use hN tw_95) dXP_takeMovedWord_38 ?_
  refine lv_if_ne (tgt := 48) hx hb dXP_takeMovedWord_41 (by decide) (fun hc => ?_) (fun hc => ?_)
  · have h := tc_in hc h
    exact w_XP_takeMovedWord_48 C0 hJ h hP hS (lv_sub hl [] rfl)
  · have h := tc_ip hc h
    refine lv_aload_n hx hb dXP_takeMovedWord_44 rfl (lv_at hl 0 rfl) ?_
    obtain ⟨q45, e45, h⟩ := tc_bd_some h
    refine tc_cVv (As := []) (rest := []) C0 (k_XP_endMove hJ e45) tv_XP_71 (by decide) (by decide) hP hS hl 3 rfl rfl (Nat.le_of_ble_eq_true rfl) dXP_takeMovedWord_45 rfl (fun H locs hP hS => ?_)
    exact w_XP_takeMovedWord_48 C0 hJ h hP hS (lv_sub hl [] rfl)
theorem k_XP_takeMovedWord (hJ : ∀ σ, va_D A (tc_cW ad cA σ)) {σ : tc_S} {l1 : Int32} {q : tc_S} (h : m_XP_takeMovedWord σ l1 = some q) : Met l yXP_takeMovedWord [.code yXP_takeMovedWord cXP_takeMovedWord 2 none] (tc_R 2) (tc_Pc D cA (tc_cW ad cA σ) [.ref (ad 3), .int l1]) (tc_Qv D (tc_cW ad cA q) A) 0 0 A :=
  tc_met (by decide) (Nat.le_of_ble_eq_true rfl) (fun _ _ _ _ _ _ _ C hP _ hl => w_XP_takeMovedWord_0 C hJ h hP va_S.rf hl)
def m_XU_moveWord_28 (σ : tc_S) (k0 : Int32) : Option (tc_S) := ((m_XP_takeMovedWord σ k0).bind (fun q28 => (some q28)))
set_option maxHeartbeats 4000000 in
set_option maxRecDepth 100000 in
theorem w_XU_moveWord_28 (C : tc_C p s m args meth c RXU cXU_moveWord 2 none D cA) (hJ : ∀ σ, va_D A (tc_cW ad cA σ)) {q : tc_S} {σ : tc_S} {k0 : Int32} {H : Heap} {locs : List Loc} {ls : Array Slot} (h : m_XU_moveWord_28 σ k0 = some q) (hP : va_P D vwCl (tc_cW ad cA σ) H) (hS : va_S A s.heap H locs) (hl : lv_has ls 2 []) : W p l e (tc_R 3) s m args below meth c H locs 0 0 (MQ below (tc_Qv D (tc_cW ad cA q) A) args s 0 0 A) (F0 m 28 ls [.int k0, .ref (ad 3)]) := by
  have C0 := C
  obtain ⟨hx, hb, hml, hown, ⟨hK, hN⟩, hr, hlk⟩ := C
  unfold m_XU_moveWord_28 at h
  obtain ⟨q28, e28, h⟩ := tc_bd_some h
  refine tc_cVv (As := [.int k0]) (rest := []) C0 (k_XP_takeMovedWord hJ e28) tv_XU_89 (by decide) (by decide) hP hS hl 3 rfl rfl (Nat.le_of_ble_eq_true rfl) dXU_moveWord_28 rfl (fun H locs hP hS => ?_)
  exact tc_crv C0 hP hS h dXU_moveWord_31
def m_XU_moveWord (σ : tc_S) : Option (tc_S) := (if 768 ≤ (tc_gf σ 24) then (m_XU_moveWord_28 σ 0) else ((m_XU_readQuietly σ (tc_gf σ 24)).bind (fun q21 => (m_XU_moveWord_28 q21.2 q21.1))))
set_option maxHeartbeats 4000000 in
set_option maxRecDepth 100000 in
theorem w_XU_moveWord_0 (C : tc_C p s m args meth c RXU cXU_moveWord 2 none D cA) (hJ : ∀ σ, va_D A (tc_cW ad cA σ)) {q : tc_S} {σ : tc_S} {H : Heap} {locs : List Loc} {ls : Array Slot} (h : m_XU_moveWord σ = some q) (hP : va_P D vwCl (tc_cW ad cA σ) H) (hS : va_S A s.heap H locs) (hl : lv_has ls 2 [(0, .ref (ad 6))]) : W p l e (tc_R 3) s m args below meth c H locs 0 0 (MQ below (tc_Qv D (tc_cW ad cA q) A) args s 0 0 A) (F0 m 0 ls []) := by
  have C0 := C
  obtain ⟨hx, hb, hml, hown, ⟨hK, hN⟩, hr, hlk⟩ := C
  unfold m_XU_moveWord at h
  refine lv_aload_n hx hb dXU_moveWord_0 rfl (lv_at hl 0 rfl) ?_
  refine tc_cr_XU_picture C0 hP (tc_use hN tw_201) dXU_moveWord_1 ?_
  refine tc_cgN24 C0 hP (tc_use hN tw_97) dXU_moveWord_4 ?_
  refine lv_istore_n (lv' := [(1, .int (tc_gf σ 24)), (0, .ref (ad 6))]) hx hb dXU_moveWord_7 rfl hl (by decide) rfl (fun ls hl => ?_)
  refine lv_aload_n hx hb dXU_moveWord_8 rfl (lv_at hl 1 rfl) ?_
  refine tc_cr_XU_picture C0 hP (tc_use hN tw_201) dXU_moveWord_9 ?_
  refine lv_iload_n hx hb dXU_moveWord_12 rfl (lv_at hl 0 rfl) ?_
  refine lv_sipush (v := 768) hx hb dXU_moveWord_13 (by decide) ?_
  refine lv_icmp_ge (tgt := 27) hx hb dXU_moveWord_16 (by decide) (fun hc => ?_) (fun hc => ?_)
  · have h := tc_ip hc h
    refine lv_iconst (v := 0) hx hb dXU_moveWord_27 (by decide) ?_
    exact w_XU_moveWord_28 C0 hJ h hP hS (lv_sub hl [] rfl)
  · have h := tc_in hc h
    refine lv_aload_n hx hb dXU_moveWord_19 rfl (lv_at hl 1 rfl) ?_
    refine lv_iload_n hx hb dXU_moveWord_20 rfl (lv_at hl 0 rfl) ?_
    obtain ⟨q21, e21, h⟩ := tc_bd_some h
    refine tc_cVi (As := [.int (tc_gf σ 24)]) (rest := [.ref (ad 3)]) C0 (k_XU_readQuietly hJ e21) tv_XU_64 (by decide) (by decide) hP hS hl 6 rfl rfl (Nat.le_of_ble_eq_true rfl) dXU_moveWord_21 rfl (fun H locs hP hS => ?_)
    refine lv_goto (tgt := 28) hx hb dXU_moveWord_24 (by decide) ?_
    exact w_XU_moveWord_28 C0 hJ h hP hS (lv_sub hl [] rfl)
theorem k_XU_moveWord (hJ : ∀ σ, va_D A (tc_cW ad cA σ)) {σ : tc_S} {q : tc_S} (h : m_XU_moveWord σ = some q) : Met l yXU_moveWord [.code yXU_moveWord cXU_moveWord 2 none] (tc_R 3) (tc_Pc D cA (tc_cW ad cA σ) [.ref (ad 6)]) (tc_Qv D (tc_cW ad cA q) A) 0 0 A :=
  tc_met (by decide) (Nat.le_of_ble_eq_true rfl) (fun _ _ _ _ _ _ _ C hP _ hl => w_XU_moveWord_0 C hJ h hP va_S.rf hl)
def m_XT_oneStep_94 (σ : tc_S) (l1 l2 : Int32) : Option (Int32 × tc_S) := ((m_XS_give σ l1).bind (fun q99 => ((m_XB_goOn q99 (l1 + l2)).bind (fun q109 => (some ((l1 + l2), q109))))))
set_option maxHeartbeats 4000000 in
set_option maxRecDepth 100000 in
theorem w_XT_oneStep_94 (C : tc_C p s m args meth c RXT cXT_oneStep 4 (some .int) D cA) (hJ : ∀ σ, va_D A (tc_cW ad cA σ)) {q : Int32 × tc_S} {σ : tc_S} {l1 l2 : Int32} {H : Heap} {locs : List Loc} {ls : Array Slot} (h : m_XT_oneStep_94 σ l1 l2 = some q) (hP : va_P D vwCl (tc_cW ad cA σ) H) (hS : va_S A s.heap H locs) (hl : lv_has ls 4 [(0, .ref (ad 0)), (1, .int l1), (2, .int l2)]) : W p l e (tc_R 6) s m args below meth c H locs 0 0 (MQ below (tc_Qi D (tc_cW ad cA q.2) A q.1) args s 0 0 A) (F0 m 94 ls []) := by
  have C0 := C
  obtain ⟨hx, hb, hml, hown, ⟨hK, hN⟩, hr, hlk⟩ := C
  unfold m_XT_oneStep_94 at h
  refine lv_aload_n hx hb dXT_oneStep_94 rfl (lv_at hl 0 rfl) ?_
  refine tc_cr_XT_second C0 hP (tc_use hN tw_267) dXT_oneStep_95 ?_
  refine lv_iload_n hx hb dXT_oneStep_98 rfl (lv_at hl 1 rfl) ?_
  obtain ⟨q99, e99, h⟩ := tc_bd_some h
  refine tc_cVv (As := [.int l1]) (rest := []) C0 (k_XS_give hJ e99) tv_XT_176 (by decide) (by decide) hP hS hl 2 rfl rfl (Nat.le_of_ble_eq_true rfl) dXT_oneStep_99 rfl (fun H locs hP hS => ?_)
  refine lv_aload_n hx hb dXT_oneStep_102 rfl (lv_at hl 0 rfl) ?_
  refine tc_cr_XT_beam C0 hP (tc_use hN tw_270) dXT_oneStep_103 ?_
  refine lv_iload_n hx hb dXT_oneStep_106 rfl (lv_at hl 1 rfl) ?_
  refine lv_iload_n hx hb dXT_oneStep_107 rfl (lv_at hl 2 rfl) ?_
  refine lv_iadd hx hb dXT_oneStep_108 ?_
  obtain ⟨q109, e109, h⟩ := tc_bd_some h
  refine tc_cVv (As := [.int (l1 + l2)]) (rest := []) C0 (k_XB_goOn hJ e109) tv_XT_179 (by decide) (by decide) hP hS hl 4 rfl rfl (Nat.le_of_ble_eq_true rfl) dXT_oneStep_109 rfl (fun H locs hP hS => ?_)
  refine lv_iload_n hx hb dXT_oneStep_112 rfl (lv_at hl 1 rfl) ?_
  refine lv_iload_n hx hb dXT_oneStep_113 rfl (lv_at hl 2 rfl) ?_
  refine lv_iadd hx hb dXT_oneStep_114 ?_
  exact tc_cri C0 hP hS h dXT_oneStep_115
def m_XT_oneStep (σ : tc_S) : Option (Int32 × tc_S) := ((m_XB_highestPending σ (tc_gf σ 2)).bind (fun q13 => ((m_XP_movesFromMemory q13.2).bind (fun q21 => (if q21.1 = 0 then (if q13.1 = 0 then (if (tc_gf q21.2 7) = 0 then ((m_XS_takeMainLate q21.2).bind (fun q82 => ((m_XM_instruct q82.2).bind (fun q90 => (m_XT_oneStep_94 q90.2 q90.1 q82.1))))) else (m_XT_oneStep_94 q21.2 4 0)) else ((m_XB_takePending q21.2 q13.1).bind (fun q48 => ((m_XM_interrupt q48 q13.1).bind (fun q56 => (m_XT_oneStep_94 q56.2 q56.1 0)))))) else ((m_XU_moveWord q21.2).bind (fun q31 => (m_XT_oneStep_94 q31 2 0))))))))
set_option maxHeartbeats 4000000 in
set_option maxRecDepth 100000 in
theorem w_XT_oneStep_0 (C : tc_C p s m args meth c RXT cXT_oneStep 4 (some .int) D cA) (hJ : ∀ σ, va_D A (tc_cW ad cA σ)) {q : Int32 × tc_S} {σ : tc_S} {H : Heap} {locs : List Loc} {ls : Array Slot} (h : m_XT_oneStep σ = some q) (hP : va_P D vwCl (tc_cW ad cA σ) H) (hS : va_S A s.heap H locs) (hl : lv_has ls 4 [(0, .ref (ad 0))]) : W p l e (tc_R 6) s m args below meth c H locs 0 0 (MQ below (tc_Qi D (tc_cW ad cA q.2) A q.1) args s 0 0 A) (F0 m 0 ls []) := by
  have C0 := C
  obtain ⟨hx, hb, hml, hown, ⟨hK, hN⟩, hr, hlk⟩ := C
  unfold m_XT_oneStep at h
  refine lv_iconst (v := 0) hx hb dXT_oneStep_0 (by decide) ?_
  refine lv_istore_n (lv' := [(2, .int 0), (0, .ref (ad 0))]) hx hb dXT_oneStep_1 rfl hl (by decide) rfl (fun ls hl => ?_)
  refine lv_aload_n hx hb dXT_oneStep_2 rfl (lv_at hl 1 rfl) ?_
  refine tc_cr_XT_beam C0 hP (tc_use hN tw_270) dXT_oneStep_3 ?_
  refine lv_aload_n hx hb dXT_oneStep_6 rfl (lv_at hl 1 rfl) ?_
  refine tc_cr_XT_main C0 hP (tc_use hN tw_272) dXT_oneStep_7 ?_
  refine tc_cgN2 C0 hP (tc_use hN tw_238) dXT_oneStep_10 ?_
  obtain ⟨q13, e13, h⟩ := tc_bd_some h
  refine tc_cVi (As := [.int (tc_gf σ 2)]) (rest := []) C0 (k_XB_highestPending hJ e13) tv_XT_157 (by decide) (by decide) hP hS hl 4 rfl rfl (Nat.le_of_ble_eq_true rfl) dXT_oneStep_13 rfl (fun H locs hP hS => ?_)
  refine lv_istore_n (lv' := [(3, .int q13.1), (2, .int 0), (0, .ref (ad 0))]) hx hb dXT_oneStep_16 rfl hl (by decide) rfl (fun ls hl => ?_)
  refine lv_aload_n hx hb dXT_oneStep_17 rfl (lv_at hl 2 rfl) ?_
  refine tc_cr_XT_picture C0 hP (tc_use hN tw_268) dXT_oneStep_18 ?_
  obtain ⟨q21, e21, h⟩ := tc_bd_some h
  refine tc_cVi (As := []) (rest := []) C0 (k_XP_movesFromMemory hJ e21) tv_XT_97 (by decide) (by decide) hP hS hl 3 rfl rfl (Nat.le_of_ble_eq_true rfl) dXT_oneStep_21 rfl (fun H locs hP hS => ?_)
  refine lv_if_eq (tgt := 39) hx hb dXT_oneStep_24 (by decide) (fun hc => ?_) (fun hc => ?_)
  · have h := tc_ip hc h
    refine lv_iload_n hx hb dXT_oneStep_39 rfl (lv_at hl 0 rfl) ?_
    refine lv_if_eq (tgt := 63) hx hb dXT_oneStep_40 (by decide) (fun hc => ?_) (fun hc => ?_)
    · have h := tc_ip hc h
      refine lv_aload_n hx hb dXT_oneStep_63 rfl (lv_at hl 2 rfl) ?_
      refine tc_cr_XT_main C0 hP (tc_use hN tw_272) dXT_oneStep_64 ?_
      refine tc_cgN7 C0 hP (tc_use hN tw_244) dXT_oneStep_67 ?_
      refine lv_if_eq (tgt := 78) hx hb dXT_oneStep_70 (by decide) (fun hc => ?_) (fun hc => ?_)
      · have h := tc_ip hc h
        refine lv_aload_n hx hb dXT_oneStep_78 rfl (lv_at hl 2 rfl) ?_
        refine tc_cr_XT_second C0 hP (tc_use hN tw_267) dXT_oneStep_79 ?_
        obtain ⟨q82, e82, h⟩ := tc_bd_some h
        refine tc_cVi (As := []) (rest := []) C0 (k_XS_takeMainLate hJ e82) tv_XT_170 (by decide) (by decide) hP hS hl 2 rfl rfl (Nat.le_of_ble_eq_true rfl) dXT_oneStep_82 rfl (fun H locs hP hS => ?_)
        refine lv_istore_n (lv' := [(2, .int q82.1), (3, .int q13.1), (0, .ref (ad 0))]) hx hb dXT_oneStep_85 rfl hl (by decide) rfl (fun ls hl => ?_)
        refine lv_aload_n hx hb dXT_oneStep_86 rfl (lv_at hl 2 rfl) ?_
        refine tc_cr_XT_main C0 hP (tc_use hN tw_272) dXT_oneStep_87 ?_
        obtain ⟨q90, e90, h⟩ := tc_bd_some h
        refine tc_cVi (As := []) (rest := []) C0 (k_XM_instruct hJ e90) tv_XT_173 (by decide) (by decide) hP hS hl 1 rfl rfl (Nat.le_of_ble_eq_true rfl) dXT_oneStep_90 rfl (fun H locs hP hS => ?_)
        refine lv_istore_n (lv' := [(1, .int q90.1), (2, .int q82.1), (3, .int q13.1), (0, .ref (ad 0))]) hx hb dXT_oneStep_93 rfl hl (by decide) rfl (fun ls hl => ?_)
        exact w_XT_oneStep_94 C0 hJ h hP hS (lv_sub hl [3, 0, 1] rfl)
      · have h := tc_in hc h
        refine lv_iconst (v := 4) hx hb dXT_oneStep_73 (by decide) ?_
        refine lv_istore_n (lv' := [(1, .int 4), (3, .int q13.1), (2, .int 0), (0, .ref (ad 0))]) hx hb dXT_oneStep_74 rfl hl (by decide) rfl (fun ls hl => ?_)
        refine lv_goto (tgt := 94) hx hb dXT_oneStep_75 (by decide) ?_
        exact w_XT_oneStep_94 C0 hJ h hP hS (lv_sub hl [3, 0, 2] rfl)
    · have h := tc_in hc h
      refine lv_aload_n hx hb dXT_oneStep_43 rfl (lv_at hl 2 rfl) ?_
      refine tc_cr_XT_beam C0 hP (tc_use hN tw_270) dXT_oneStep_44 ?_
      refine lv_iload_n hx hb dXT_oneStep_47 rfl (lv_at hl 0 rfl) ?_
      obtain ⟨q48, e48, h⟩ := tc_bd_some h
      refine tc_cVv (As := [.int q13.1]) (rest := []) C0 (k_XB_takePending hJ e48) tv_XT_163 (by decide) (by decide) hP hS hl 4 rfl rfl (Nat.le_of_ble_eq_true rfl) dXT_oneStep_48 rfl (fun H locs hP hS => ?_)
      refine lv_aload_n hx hb dXT_oneStep_51 rfl (lv_at hl 2 rfl) ?_
      refine tc_cr_XT_main C0 hP (tc_use hN tw_272) dXT_oneStep_52 ?_
      refine lv_iload_n hx hb dXT_oneStep_55 rfl (lv_at hl 0 rfl) ?_
      obtain ⟨q56, e56, h⟩ := tc_bd_some h
      refine tc_cVi (As := [.int q13.1]) (rest := []) C0 (k_XM_interrupt hJ e56) tv_XT_167 (by decide) (by decide) hP hS hl 1 rfl rfl (Nat.le_of_ble_eq_true rfl) dXT_oneStep_56 rfl (fun H locs hP hS => ?_)
      refine lv_istore_n (lv' := [(1, .int q56.1), (3, .int q13.1), (2, .int 0), (0, .ref (ad 0))]) hx hb dXT_oneStep_59 rfl hl (by decide) rfl (fun ls hl => ?_)
      refine lv_goto (tgt := 94) hx hb dXT_oneStep_60 (by decide) ?_
      exact w_XT_oneStep_94 C0 hJ h hP hS (lv_sub hl [3, 0, 2] rfl)
  · have h := tc_in hc h
    refine lv_aload_n hx hb dXT_oneStep_27 rfl (lv_at hl 2 rfl) ?_
    refine tc_cr_XT_bus C0 hP (tc_use hN tw_271) dXT_oneStep_28 ?_
    obtain ⟨q31, e31, h⟩ := tc_bd_some h
    refine tc_cVv (As := []) (rest := []) C0 (k_XU_moveWord hJ e31) tv_XT_160 (by decide) (by decide) hP hS hl 6 rfl rfl (Nat.le_of_ble_eq_true rfl) dXT_oneStep_31 rfl (fun H locs hP hS => ?_)
    refine lv_iconst (v := 2) hx hb dXT_oneStep_34 (by decide) ?_
    refine lv_istore_n (lv' := [(1, .int 2), (3, .int q13.1), (2, .int 0), (0, .ref (ad 0))]) hx hb dXT_oneStep_35 rfl hl (by decide) rfl (fun ls hl => ?_)
    refine lv_goto (tgt := 94) hx hb dXT_oneStep_36 (by decide) ?_
    exact w_XT_oneStep_94 C0 hJ h hP hS (lv_sub hl [3, 0, 2] rfl)
theorem k_XT_oneStep (hJ : ∀ σ, va_D A (tc_cW ad cA σ)) {σ : tc_S} {q : Int32 × tc_S} (h : m_XT_oneStep σ = some q) : Met l yXT_oneStep [.code yXT_oneStep cXT_oneStep 4 (some .int)] (tc_R 6) (tc_Pc D cA (tc_cW ad cA σ) [.ref (ad 0)]) (tc_Qi D (tc_cW ad cA q.2) A q.1) 0 0 A :=
  tc_met (by decide) (Nat.le_of_ble_eq_true rfl) (fun _ _ _ _ _ _ _ C hP _ hl => w_XT_oneStep_0 C hJ h hP va_S.rf hl)
def m_XT_step (σ : tc_S) : Option (Int32 × tc_S) := ((m_XT_oneStep σ).bind (fun q1 => (some (q1.1, q1.2))))
set_option maxHeartbeats 4000000 in
set_option maxRecDepth 100000 in
theorem w_XT_step_0 (C : tc_C p s m args meth c RXT cXT_step 1 (some .int) D cA) (hJ : ∀ σ, va_D A (tc_cW ad cA σ)) {q : Int32 × tc_S} {σ : tc_S} {H : Heap} {locs : List Loc} {ls : Array Slot} (h : m_XT_step σ = some q) (hP : va_P D vwCl (tc_cW ad cA σ) H) (hS : va_S A s.heap H locs) (hl : lv_has ls 1 [(0, .ref (ad 0))]) : W p l e (tc_R 7) s m args below meth c H locs 0 0 (MQ below (tc_Qi D (tc_cW ad cA q.2) A q.1) args s 0 0 A) (F0 m 0 ls []) := by
  have C0 := C
  obtain ⟨hx, hb, hml, hown, ⟨hK, hN⟩, hr, hlk⟩ := C
  unfold m_XT_step at h
  refine lv_aload_n hx hb dXT_step_0 rfl (lv_at hl 0 rfl) ?_
  obtain ⟨q1, e1, h⟩ := tc_bd_some h
  refine tc_cVi (As := []) (rest := []) C0 (k_XT_oneStep hJ e1) tv_XT_73 (by decide) (by decide) hP hS hl 0 rfl rfl (Nat.le_of_ble_eq_true rfl) dXT_step_1 rfl (fun H locs hP hS => ?_)
  exact tc_cri C0 hP hS h dXT_step_4
theorem k_XT_step (hJ : ∀ σ, va_D A (tc_cW ad cA σ)) {σ : tc_S} {q : Int32 × tc_S} (h : m_XT_step σ = some q) : Met l yXT_step [.code yXT_step cXT_step 1 (some .int)] (tc_R 7) (tc_Pc D cA (tc_cW ad cA σ) [.ref (ad 0)]) (tc_Qi D (tc_cW ad cA q.2) A q.1) 0 0 A :=
  tc_met (by decide) (Nat.le_of_ble_eq_true rfl) (fun _ _ _ _ _ _ _ C hP _ hl => w_XT_step_0 C hJ h hP va_S.rf hl)
def m_XT_run_11 (σ : tc_S) : Option (Int32 × tc_S) := (some ((-1), σ))
set_option maxHeartbeats 4000000 in
set_option maxRecDepth 100000 in
theorem w_XT_run_11 (C : tc_C p s m args meth c RXT cXT_run 4 (some .int) D cA) (hJ : ∀ σ, va_D A (tc_cW ad cA σ)) {q : Int32 × tc_S} {σ : tc_S} {H : Heap} {locs : List Loc} {ls : Array Slot} (h : m_XT_run_11 σ = some q) (hP : va_P D vwCl (tc_cW ad cA σ) H) (hS : va_S A s.heap H locs) (hl : lv_has ls 4 []) : W p l e (tc_R 7) s m args below meth c H locs 0 0 (MQ below (tc_Qi D (tc_cW ad cA q.2) A q.1) args s 0 0 A) (F0 m 11 ls []) := by
  have C0 := C
  obtain ⟨hx, hb, hml, hown, ⟨hK, hN⟩, hr, hlk⟩ := C
  unfold m_XT_run_11 at h
  refine lv_iconst (v := (-1)) hx hb dXT_run_11 (by decide) ?_
  exact tc_cri C0 hP hS h dXT_run_12
def m_XT_run_42 (σ : tc_S) (l2 : Int32) : Option (Int32 × tc_S) := (some (l2, σ))
set_option maxHeartbeats 4000000 in
set_option maxRecDepth 100000 in
theorem w_XT_run_42 (C : tc_C p s m args meth c RXT cXT_run 4 (some .int) D cA) (hJ : ∀ σ, va_D A (tc_cW ad cA σ)) {q : Int32 × tc_S} {σ : tc_S} {l2 : Int32} {H : Heap} {locs : List Loc} {ls : Array Slot} (h : m_XT_run_42 σ l2 = some q) (hP : va_P D vwCl (tc_cW ad cA σ) H) (hS : va_S A s.heap H locs) (hl : lv_has ls 4 [(2, .int l2)]) : W p l e (tc_R 7) s m args below meth c H locs 0 0 (MQ below (tc_Qi D (tc_cW ad cA q.2) A q.1) args s 0 0 A) (F0 m 42 ls []) := by
  have C0 := C
  obtain ⟨hx, hb, hml, hown, ⟨hK, hN⟩, hr, hlk⟩ := C
  unfold m_XT_run_42 at h
  refine lv_iload_n hx hb dXT_run_42 rfl (lv_at hl 0 rfl) ?_
  exact tc_cri C0 hP hS h dXT_run_43
def m_XT_run_17 : Nat → tc_S → Int32 → Int32 → Int32 → Option (Int32 × tc_S)
  | 0, _, _, _, _ => none
  | n + 1, σ, l1, l2, l3 => (if 800 ≤ l3 then (m_XT_run_42 σ l2) else (if l1 ≤ l2 then (m_XT_run_42 σ l2) else ((m_XT_oneStep σ).bind (fun q31 => (m_XT_run_17 n q31.2 l1 (l2 + q31.1) (l3 + 1))))))
set_option maxHeartbeats 4000000 in
set_option maxRecDepth 100000 in
theorem w_XT_run_17 (C : tc_C p s m args meth c RXT cXT_run 4 (some .int) D cA) (hJ : ∀ σ, va_D A (tc_cW ad cA σ)) {q : Int32 × tc_S} : ∀ (n : Nat) {σ : tc_S} {l1 l2 l3 : Int32} {H : Heap} {locs : List Loc} {ls : Array Slot} (h : m_XT_run_17 n σ l1 l2 l3 = some q) (hP : va_P D vwCl (tc_cW ad cA σ) H) (hS : va_S A s.heap H locs) (hl : lv_has ls 4 [(0, .ref (ad 0)), (1, .int l1), (2, .int l2), (3, .int l3)]), W p l e (tc_R 7) s m args below meth c H locs 0 0 (MQ below (tc_Qi D (tc_cW ad cA q.2) A q.1) args s 0 0 A) (F0 m 17 ls []) := by
  have C0 := C
  obtain ⟨hx, hb, hml, hown, ⟨hK, hN⟩, hr, hlk⟩ := C
  intro n
  induction n with
  | zero =>
    intro σ l1 l2 l3 H locs ls h hP hS hl
    exact absurd h (by simp [m_XT_run_17])
  | succ n ih =>
    intro σ l1 l2 l3 H locs ls h hP hS hl
    unfold m_XT_run_17 at h
    refine lv_iload_n hx hb dXT_run_17 rfl (lv_at hl 3 rfl) ?_
    refine lv_sipush (v := 800) hx hb dXT_run_18 (by decide) ?_
    refine lv_icmp_ge (tgt := 42) hx hb dXT_run_21 (by decide) (fun hc => ?_) (fun hc => ?_)
    · have h := tc_ip hc h
      exact w_XT_run_42 C0 hJ h hP hS (lv_sub hl [2] rfl)
    · have h := tc_in hc h
      refine lv_iload_n hx hb dXT_run_24 rfl (lv_at hl 2 rfl) ?_
      refine lv_iload_n hx hb dXT_run_25 rfl (lv_at hl 1 rfl) ?_
      refine lv_icmp_ge (tgt := 42) hx hb dXT_run_26 (by decide) (fun hc => ?_) (fun hc => ?_)
      · have h := tc_ip hc h
        exact w_XT_run_42 C0 hJ h hP hS (lv_sub hl [2] rfl)
      · have h := tc_in hc h
        refine lv_iload_n hx hb dXT_run_29 rfl (lv_at hl 2 rfl) ?_
        refine lv_aload_n hx hb dXT_run_30 rfl (lv_at hl 0 rfl) ?_
        obtain ⟨q31, e31, h⟩ := tc_bd_some h
        refine tc_cVi (As := []) (rest := [.int l2]) C0 (k_XT_oneStep hJ e31) tv_XT_73 (by decide) (by decide) hP hS hl 0 rfl rfl (Nat.le_of_ble_eq_true rfl) dXT_run_31 rfl (fun H locs hP hS => ?_)
        refine lv_iadd hx hb dXT_run_34 ?_
        refine lv_istore_n (lv' := [(2, .int (l2 + q31.1)), (0, .ref (ad 0)), (1, .int l1), (3, .int l3)]) hx hb dXT_run_35 rfl hl (by decide) rfl (fun ls hl => ?_)
        refine lv_iinc (k := 3) (v := (l3 + 1)) (lv' := [(3, .int (l3 + 1)), (2, .int (l2 + q31.1)), (0, .ref (ad 0)), (1, .int l1)]) hx hb dXT_run_36 hl rfl rfl (by decide) rfl (fun ls hl => ?_)
        refine lv_goto (tgt := 17) hx hb dXT_run_39 (by decide) ?_
        exact ih h hP hS (lv_sub hl [2, 3, 1, 0] rfl)
def m_XT_run (σ : tc_S) (l1 : Int32) : Option (Int32 × tc_S) := (if l1 < 0 then (m_XT_run_11 σ) else (if l1 ≤ 800 then (m_XT_run_17 2000 σ l1 0 0) else (m_XT_run_11 σ)))
set_option maxHeartbeats 4000000 in
set_option maxRecDepth 100000 in
theorem w_XT_run_0 (C : tc_C p s m args meth c RXT cXT_run 4 (some .int) D cA) (hJ : ∀ σ, va_D A (tc_cW ad cA σ)) {q : Int32 × tc_S} {σ : tc_S} {l1 : Int32} {H : Heap} {locs : List Loc} {ls : Array Slot} (h : m_XT_run σ l1 = some q) (hP : va_P D vwCl (tc_cW ad cA σ) H) (hS : va_S A s.heap H locs) (hl : lv_has ls 4 [(0, .ref (ad 0)), (1, .int l1)]) : W p l e (tc_R 7) s m args below meth c H locs 0 0 (MQ below (tc_Qi D (tc_cW ad cA q.2) A q.1) args s 0 0 A) (F0 m 0 ls []) := by
  have C0 := C
  obtain ⟨hx, hb, hml, hown, ⟨hK, hN⟩, hr, hlk⟩ := C
  unfold m_XT_run at h
  refine lv_iload_n hx hb dXT_run_0 rfl (lv_at hl 1 rfl) ?_
  refine lv_if_lt (tgt := 11) hx hb dXT_run_1 (by decide) (fun hc => ?_) (fun hc => ?_)
  · have h := tc_ip hc h
    exact w_XT_run_11 C0 hJ h hP hS (lv_sub hl [] rfl)
  · have h := tc_in hc h
    refine lv_iload_n hx hb dXT_run_4 rfl (lv_at hl 1 rfl) ?_
    refine lv_sipush (v := 800) hx hb dXT_run_5 (by decide) ?_
    refine lv_icmp_le (tgt := 13) hx hb dXT_run_8 (by decide) (fun hc => ?_) (fun hc => ?_)
    · have h := tc_ip hc h
      refine lv_iconst (v := 0) hx hb dXT_run_13 (by decide) ?_
      refine lv_istore_n (lv' := [(2, .int 0), (0, .ref (ad 0)), (1, .int l1)]) hx hb dXT_run_14 rfl hl (by decide) rfl (fun ls hl => ?_)
      refine lv_iconst (v := 0) hx hb dXT_run_15 (by decide) ?_
      refine lv_istore_n (lv' := [(3, .int 0), (2, .int 0), (0, .ref (ad 0)), (1, .int l1)]) hx hb dXT_run_16 rfl hl (by decide) rfl (fun ls hl => ?_)
      exact w_XT_run_17 C0 hJ _ h hP hS (lv_sub hl [2, 3, 1, 0] rfl)
    · have h := tc_in hc h
      exact w_XT_run_11 C0 hJ h hP hS (lv_sub hl [] rfl)
theorem k_XT_run (hJ : ∀ σ, va_D A (tc_cW ad cA σ)) {σ : tc_S} {l1 : Int32} {q : Int32 × tc_S} (h : m_XT_run σ l1 = some q) : Met l yXT_run [.code yXT_run cXT_run 4 (some .int)] (tc_R 7) (tc_Pc D cA (tc_cW ad cA σ) [.ref (ad 0), .int l1]) (tc_Qi D (tc_cW ad cA q.2) A q.1) 0 0 A :=
  tc_met (by decide) (Nat.le_of_ble_eq_true rfl) (fun _ _ _ _ _ _ _ C hP _ hl => w_XT_run_0 C hJ h hP va_S.rf hl)
end WALK_C_06
