section WALK_R_09
variable {p : Program} {l : Launch} {e : Env} {s : State} {m : MethodId} {args : Array Value} {below : List Frame} {meth : Method} {c : Code} {D : va_G} {cA : ClassId} {A : Nat → Prop} {ad : Nat → Nat}
def m_XR_endMove (σ : tc_S) : Option (tc_S) := (tc_gd 11 16 (tc_gd 12 16 (some (tc_sa (tc_sa σ 5 11 0) 5 12 0))))
set_option maxHeartbeats 4000000 in
set_option maxRecDepth 100000 in
theorem w_XR_endMove_0 (C : tc_C p s m args meth c RXR cXR_endMove 1 none D cA) (hJ : ∀ σ, va_D A (tc_rW ad cA σ)) {q : tc_S} {σ : tc_S} {H : Heap} {locs : List Loc} {ls : Array Slot} (h : m_XR_endMove σ = some q) (hP : va_P D vwCl (tc_rW ad cA σ) H) (hS : va_S A s.heap H locs) (hl : lv_has ls 1 [(0, .ref (ad 0))]) : W p l e (tc_R 0) s m args below meth c H locs 0 0 (MQ below (tc_Qv D (tc_rW ad cA q) A) args s 0 0 A) (F0 m 0 ls []) := by
  have C0 := C
  obtain ⟨hx, hb, hml, hown, ⟨hK, hN⟩, hr, hlk⟩ := C
  unfold m_XR_endMove at h
  refine lv_aload_n hx hb dXR_endMove_0 rfl (lv_at hl 0 rfl) ?_
  refine tc_rr_XR_regs C0 hP (tc_use hN tw_653) dXR_endMove_1 ?_
  refine lv_bipush (v := 11) hx hb dXR_endMove_4 (by decide) ?_
  refine lv_iconst (v := 0) hx hb dXR_endMove_6 (by decide) ?_
  obtain ⟨hi, h⟩ := tc_gd_some h
  refine tc_rst8 C0 hJ hP hS hi dXR_endMove_7 (fun H locs hP hS => ?_)
  refine lv_aload_n hx hb dXR_endMove_8 rfl (lv_at hl 0 rfl) ?_
  refine tc_rr_XR_regs C0 hP (tc_use hN tw_653) dXR_endMove_9 ?_
  refine lv_bipush (v := 12) hx hb dXR_endMove_12 (by decide) ?_
  refine lv_iconst (v := 0) hx hb dXR_endMove_14 (by decide) ?_
  obtain ⟨hi, h⟩ := tc_gd_some h
  refine tc_rst8 C0 hJ hP hS hi dXR_endMove_15 (fun H locs hP hS => ?_)
  exact tc_rrv C0 hP hS h dXR_endMove_16
theorem k_XR_endMove (hJ : ∀ σ, va_D A (tc_rW ad cA σ)) {σ : tc_S} {q : tc_S} (h : m_XR_endMove σ = some q) : Met l yXR_endMove [.code yXR_endMove cXR_endMove 1 none] (tc_R 0) (tc_Pc D cA (tc_rW ad cA σ) [.ref (ad 0)]) (tc_Qv D (tc_rW ad cA q) A) 0 0 A :=
  tc_met (by decide) (Nat.le_of_ble_eq_true rfl) (fun _ _ _ _ _ _ _ C hP _ hl => w_XR_endMove_0 C hJ h hP va_S.rf hl)
def m_XR_grow (σ : tc_S) : Option (tc_S) := (tc_gd 14 16 (some (tc_sf σ 19 (((tc_gf σ 19) + (tc_ga σ 5 14)) &&& 65535))))
set_option maxHeartbeats 4000000 in
set_option maxRecDepth 100000 in
theorem w_XR_grow_0 (C : tc_C p s m args meth c RXR cXR_grow 1 none D cA) (hJ : ∀ σ, va_D A (tc_rW ad cA σ)) {q : tc_S} {σ : tc_S} {H : Heap} {locs : List Loc} {ls : Array Slot} (h : m_XR_grow σ = some q) (hP : va_P D vwCl (tc_rW ad cA σ) H) (hS : va_S A s.heap H locs) (hl : lv_has ls 1 [(0, .ref (ad 0))]) : W p l e (tc_R 0) s m args below meth c H locs 0 0 (MQ below (tc_Qv D (tc_rW ad cA q) A) args s 0 0 A) (F0 m 0 ls []) := by
  have C0 := C
  obtain ⟨hx, hb, hml, hown, ⟨hK, hN⟩, hr, hlk⟩ := C
  unfold m_XR_grow at h
  refine lv_aload_n hx hb dXR_grow_0 rfl (lv_at hl 0 rfl) ?_
  refine lv_aload_n hx hb dXR_grow_1 rfl (lv_at hl 0 rfl) ?_
  refine tc_rg19 C0 hP (tc_use hN tw_654) dXR_grow_2 ?_
  refine lv_aload_n hx hb dXR_grow_5 rfl (lv_at hl 0 rfl) ?_
  refine tc_rr_XR_regs C0 hP (tc_use hN tw_653) dXR_grow_6 ?_
  refine lv_bipush (v := 14) hx hb dXR_grow_9 (by decide) ?_
  obtain ⟨hi, h⟩ := tc_gd_some h
  refine tc_rld8 C0 hP hi dXR_grow_11 ?_
  refine lv_iadd hx hb dXR_grow_12 ?_
  refine lv_ldc (v := 65535) hx hb hown (tc_use hN tw_807) dXR_grow_13 ?_
  refine lv_iand hx hb dXR_grow_15 ?_
  refine tc_rp19 C0 hJ hP hS (tc_use hN tw_654) dXR_grow_16 (fun H locs hP hS => ?_)
  exact tc_rrv C0 hP hS h dXR_grow_19
theorem k_XR_grow (hJ : ∀ σ, va_D A (tc_rW ad cA σ)) {σ : tc_S} {q : tc_S} (h : m_XR_grow σ = some q) : Met l yXR_grow [.code yXR_grow cXR_grow 1 none] (tc_R 0) (tc_Pc D cA (tc_rW ad cA σ) [.ref (ad 0)]) (tc_Qv D (tc_rW ad cA q) A) 0 0 A :=
  tc_met (by decide) (Nat.le_of_ble_eq_true rfl) (fun _ _ _ _ _ _ _ C hP _ hl => w_XR_grow_0 C hJ h hP va_S.rf hl)
def m_XR_begin_109 (σ : tc_S) : Option (tc_S) := (some σ)
set_option maxHeartbeats 4000000 in
set_option maxRecDepth 100000 in
theorem w_XR_begin_109 (C : tc_C p s m args meth c RXR cXR_begin 5 none D cA) (hJ : ∀ σ, va_D A (tc_rW ad cA σ)) {q : tc_S} {σ : tc_S} {H : Heap} {locs : List Loc} {ls : Array Slot} (h : m_XR_begin_109 σ = some q) (hP : va_P D vwCl (tc_rW ad cA σ) H) (hS : va_S A s.heap H locs) (hl : lv_has ls 5 []) : W p l e (tc_R 1) s m args below meth c H locs 0 0 (MQ below (tc_Qv D (tc_rW ad cA q) A) args s 0 0 A) (F0 m 109 ls []) := by
  have C0 := C
  obtain ⟨hx, hb, hml, hown, ⟨hK, hN⟩, hr, hlk⟩ := C
  unfold m_XR_begin_109 at h
  exact tc_rrv C0 hP hS h dXR_begin_109
def m_XR_begin_63 : Nat → tc_S → Int32 → Int32 → Int32 → Option (tc_S)
  | 0, _, _, _, _ => none
  | n + 1, σ, l2, l3, l4 => (if l2 ≤ l4 then ((m_XR_endMove σ).bind (fun q106 => (m_XR_begin_109 q106))) else (tc_gd ((l3 + l4) - (l3 + l4) / 1024 * 1024) 1024 (tc_gd ((tc_gf σ 19) - (tc_gf σ 19) / 1024 * 1024) 1024 ((m_XR_grow (tc_sa σ 2 ((tc_gf σ 19) - (tc_gf σ 19) / 1024 * 1024) (tc_ga σ 2 ((l3 + l4) - (l3 + l4) / 1024 * 1024)))).bind (fun q96 => (m_XR_begin_63 n q96 l2 l3 (l4 + 1)))))))
set_option maxHeartbeats 4000000 in
set_option maxRecDepth 100000 in
theorem w_XR_begin_63 (C : tc_C p s m args meth c RXR cXR_begin 5 none D cA) (hJ : ∀ σ, va_D A (tc_rW ad cA σ)) {q : tc_S} : ∀ (n : Nat) {σ : tc_S} {l2 l3 l4 : Int32} {H : Heap} {locs : List Loc} {ls : Array Slot} (h : m_XR_begin_63 n σ l2 l3 l4 = some q) (hP : va_P D vwCl (tc_rW ad cA σ) H) (hS : va_S A s.heap H locs) (hl : lv_has ls 5 [(0, .ref (ad 0)), (2, .int l2), (3, .int l3), (4, .int l4)]), W p l e (tc_R 1) s m args below meth c H locs 0 0 (MQ below (tc_Qv D (tc_rW ad cA q) A) args s 0 0 A) (F0 m 63 ls []) := by
  have C0 := C
  obtain ⟨hx, hb, hml, hown, ⟨hK, hN⟩, hr, hlk⟩ := C
  intro n
  induction n with
  | zero =>
    intro σ l2 l3 l4 H locs ls h hP hS hl
    exact absurd h (by simp [m_XR_begin_63])
  | succ n ih =>
    intro σ l2 l3 l4 H locs ls h hP hS hl
    unfold m_XR_begin_63 at h
    refine lv_iload hx hb dXR_begin_63 (lv_at hl 3 rfl) ?_
    refine lv_iload_n hx hb dXR_begin_65 rfl (lv_at hl 1 rfl) ?_
    refine lv_icmp_ge (tgt := 105) hx hb dXR_begin_66 (by decide) (fun hc => ?_) (fun hc => ?_)
    · have h := tc_ip hc h
      refine lv_aload_n hx hb dXR_begin_105 rfl (lv_at hl 0 rfl) ?_
      obtain ⟨q106, e106, h⟩ := tc_bd_some h
      refine tc_cVv (As := []) (rest := []) C0 (k_XR_endMove hJ e106) tv_XR_150 (by decide) (by decide) hP hS hl 0 rfl rfl (Nat.le_of_ble_eq_true rfl) dXR_begin_106 rfl (fun H locs hP hS => ?_)
      exact w_XR_begin_109 C0 hJ h hP hS (lv_sub hl [] rfl)
    · have h := tc_in hc h
      refine lv_aload_n hx hb dXR_begin_69 rfl (lv_at hl 0 rfl) ?_
      refine tc_rr_XR_vram C0 hP (tc_use hN tw_650) dXR_begin_70 ?_
      refine lv_aload_n hx hb dXR_begin_73 rfl (lv_at hl 0 rfl) ?_
      refine tc_rg19 C0 hP (tc_use hN tw_654) dXR_begin_74 ?_
      refine lv_sipush (v := 1024) hx hb dXR_begin_77 (by decide) ?_
      refine lv_irem hx hb dXR_begin_80 (by decide) ?_
      refine lv_aload_n hx hb dXR_begin_81 rfl (lv_at hl 0 rfl) ?_
      refine tc_rr_XR_vram C0 hP (tc_use hN tw_650) dXR_begin_82 ?_
      refine lv_iload_n hx hb dXR_begin_85 rfl (lv_at hl 2 rfl) ?_
      refine lv_iload hx hb dXR_begin_86 (lv_at hl 3 rfl) ?_
      refine lv_iadd hx hb dXR_begin_88 ?_
      refine lv_sipush (v := 1024) hx hb dXR_begin_89 (by decide) ?_
      refine lv_irem hx hb dXR_begin_92 (by decide) ?_
      obtain ⟨hi, h⟩ := tc_gd_some h
      refine tc_rld5 C0 hP hi dXR_begin_93 ?_
      obtain ⟨hi, h⟩ := tc_gd_some h
      refine tc_rst5 C0 hJ hP hS hi dXR_begin_94 (fun H locs hP hS => ?_)
      refine lv_aload_n hx hb dXR_begin_95 rfl (lv_at hl 0 rfl) ?_
      obtain ⟨q96, e96, h⟩ := tc_bd_some h
      refine tc_cVv (As := []) (rest := []) C0 (k_XR_grow hJ e96) tv_XR_138 (by decide) (by decide) hP hS hl 0 rfl rfl (Nat.le_of_ble_eq_true rfl) dXR_begin_96 rfl (fun H locs hP hS => ?_)
      refine lv_iinc (k := 3) (v := (l4 + 1)) (lv' := [(4, .int (l4 + 1)), (0, .ref (ad 0)), (2, .int l2), (3, .int l3)]) hx hb dXR_begin_99 hl rfl rfl (by decide) rfl (fun ls hl => ?_)
      refine lv_goto (tgt := 63) hx hb dXR_begin_102 (by decide) ?_
      exact ih h hP hS (lv_sub hl [1, 2, 3, 0] rfl)
def m_XR_begin (σ : tc_S) : Option (tc_S) := (tc_gd 15 16 (if 2 ≤ ((tc_ga σ 5 15) >>> ((6 : Int32) &&& 31)) then (if ((tc_ga σ 5 15) >>> ((6 : Int32) &&& 31)) = 2 then (m_XR_begin_109 (tc_sf σ 22 1)) else ((m_XR_length σ).bind (fun q51 => ((m_XR_half q51.2).bind (fun q56 => (m_XR_begin_63 2000 q56.2 q51.1 q56.1 0)))))) else ((m_XR_length σ).bind (fun q18 => ((m_XR_half (tc_sf q18.2 23 q18.1)).bind (fun q27 => (m_XR_begin_109 (tc_sf q27.2 24 (2 * q27.1)))))))))
set_option maxHeartbeats 4000000 in
set_option maxRecDepth 100000 in
theorem w_XR_begin_0 (C : tc_C p s m args meth c RXR cXR_begin 5 none D cA) (hJ : ∀ σ, va_D A (tc_rW ad cA σ)) {q : tc_S} {σ : tc_S} {H : Heap} {locs : List Loc} {ls : Array Slot} (h : m_XR_begin σ = some q) (hP : va_P D vwCl (tc_rW ad cA σ) H) (hS : va_S A s.heap H locs) (hl : lv_has ls 5 [(0, .ref (ad 0))]) : W p l e (tc_R 1) s m args below meth c H locs 0 0 (MQ below (tc_Qv D (tc_rW ad cA q) A) args s 0 0 A) (F0 m 0 ls []) := by
  have C0 := C
  obtain ⟨hx, hb, hml, hown, ⟨hK, hN⟩, hr, hlk⟩ := C
  unfold m_XR_begin at h
  refine lv_aload_n hx hb dXR_begin_0 rfl (lv_at hl 0 rfl) ?_
  refine tc_rr_XR_regs C0 hP (tc_use hN tw_653) dXR_begin_1 ?_
  refine lv_bipush (v := 15) hx hb dXR_begin_4 (by decide) ?_
  obtain ⟨hi, h⟩ := tc_gd_some h
  refine tc_rld8 C0 hP hi dXR_begin_6 ?_
  refine lv_bipush (v := 6) hx hb dXR_begin_7 (by decide) ?_
  refine lv_ishr hx hb dXR_begin_9 ?_
  refine lv_istore_n (lv' := [(1, .int ((tc_ga σ 5 15) >>> ((6 : Int32) &&& 31))), (0, .ref (ad 0))]) hx hb dXR_begin_10 rfl hl (by decide) rfl (fun ls hl => ?_)
  refine lv_iload_n hx hb dXR_begin_11 rfl (lv_at hl 0 rfl) ?_
  refine lv_iconst (v := 2) hx hb dXR_begin_12 (by decide) ?_
  refine lv_icmp_ge (tgt := 37) hx hb dXR_begin_13 (by decide) (fun hc => ?_) (fun hc => ?_)
  · have h := tc_ip hc h
    refine lv_iload_n hx hb dXR_begin_37 rfl (lv_at hl 0 rfl) ?_
    refine lv_iconst (v := 2) hx hb dXR_begin_38 (by decide) ?_
    refine lv_icmp_ne (tgt := 50) hx hb dXR_begin_39 (by decide) (fun hc => ?_) (fun hc => ?_)
    · have h := tc_in hc h
      refine lv_aload_n hx hb dXR_begin_50 rfl (lv_at hl 1 rfl) ?_
      obtain ⟨q51, e51, h⟩ := tc_bd_some h
      refine tc_cVi (As := []) (rest := []) C0 (k_XR_length hJ e51) tv_XR_147 (by decide) (by decide) hP hS hl 0 rfl rfl (Nat.le_of_ble_eq_true rfl) dXR_begin_51 rfl (fun H locs hP hS => ?_)
      refine lv_istore_n (lv' := [(2, .int q51.1), (1, .int ((tc_ga σ 5 15) >>> ((6 : Int32) &&& 31))), (0, .ref (ad 0))]) hx hb dXR_begin_54 rfl hl (by decide) rfl (fun ls hl => ?_)
      refine lv_aload_n hx hb dXR_begin_55 rfl (lv_at hl 2 rfl) ?_
      obtain ⟨q56, e56, h⟩ := tc_bd_some h
      refine tc_cVi (As := []) (rest := []) C0 (k_XR_half hJ e56) tv_XR_153 (by decide) (by decide) hP hS hl 0 rfl rfl (Nat.le_of_ble_eq_true rfl) dXR_begin_56 rfl (fun H locs hP hS => ?_)
      refine lv_istore_n (lv' := [(3, .int q56.1), (2, .int q51.1), (1, .int ((tc_ga σ 5 15) >>> ((6 : Int32) &&& 31))), (0, .ref (ad 0))]) hx hb dXR_begin_59 rfl hl (by decide) rfl (fun ls hl => ?_)
      refine lv_iconst (v := 0) hx hb dXR_begin_60 (by decide) ?_
      refine lv_istore (lv' := [(4, .int 0), (3, .int q56.1), (2, .int q51.1), (1, .int ((tc_ga σ 5 15) >>> ((6 : Int32) &&& 31))), (0, .ref (ad 0))]) hx hb dXR_begin_61 hl (by decide) rfl (fun ls hl => ?_)
      exact w_XR_begin_63 C0 hJ _ h hP hS (lv_sub hl [4, 2, 1, 0] rfl)
    · have h := tc_ip hc h
      refine lv_aload_n hx hb dXR_begin_42 rfl (lv_at hl 1 rfl) ?_
      refine lv_iconst (v := 1) hx hb dXR_begin_43 (by decide) ?_
      refine tc_rp22 C0 hJ hP hS (tc_use hN tw_657) ⟨by decide, by decide⟩ dXR_begin_44 (fun H locs hP hS => ?_)
      refine lv_goto (tgt := 109) hx hb dXR_begin_47 (by decide) ?_
      exact w_XR_begin_109 C0 hJ h hP hS (lv_sub hl [] rfl)
  · have h := tc_in hc h
    refine lv_aload_n hx hb dXR_begin_16 rfl (lv_at hl 1 rfl) ?_
    refine lv_aload_n hx hb dXR_begin_17 rfl (lv_at hl 1 rfl) ?_
    obtain ⟨q18, e18, h⟩ := tc_bd_some h
    refine tc_cVi (As := []) (rest := [.ref (ad 0)]) C0 (k_XR_length hJ e18) tv_XR_147 (by decide) (by decide) hP hS hl 0 rfl rfl (Nat.le_of_ble_eq_true rfl) dXR_begin_18 rfl (fun H locs hP hS => ?_)
    refine tc_rp23 C0 hJ hP hS (tc_use hN tw_658) dXR_begin_21 (fun H locs hP hS => ?_)
    refine lv_aload_n hx hb dXR_begin_24 rfl (lv_at hl 1 rfl) ?_
    refine lv_iconst (v := 2) hx hb dXR_begin_25 (by decide) ?_
    refine lv_aload_n hx hb dXR_begin_26 rfl (lv_at hl 1 rfl) ?_
    obtain ⟨q27, e27, h⟩ := tc_bd_some h
    refine tc_cVi (As := []) (rest := [.int 2, .ref (ad 0)]) C0 (k_XR_half hJ e27) tv_XR_153 (by decide) (by decide) hP hS hl 0 rfl rfl (Nat.le_of_ble_eq_true rfl) dXR_begin_27 rfl (fun H locs hP hS => ?_)
    refine lv_imul hx hb dXR_begin_30 ?_
    refine tc_rp24 C0 hJ hP hS (tc_use hN tw_659) dXR_begin_31 (fun H locs hP hS => ?_)
    refine lv_goto (tgt := 109) hx hb dXR_begin_34 (by decide) ?_
    exact w_XR_begin_109 C0 hJ h hP hS (lv_sub hl [] rfl)
theorem k_XR_begin (hJ : ∀ σ, va_D A (tc_rW ad cA σ)) {σ : tc_S} {q : tc_S} (h : m_XR_begin σ = some q) : Met l yXR_begin [.code yXR_begin cXR_begin 5 none] (tc_R 1) (tc_Pc D cA (tc_rW ad cA σ) [.ref (ad 0)]) (tc_Qv D (tc_rW ad cA q) A) 0 0 A :=
  tc_met (by decide) (Nat.le_of_ble_eq_true rfl) (fun _ _ _ _ _ _ _ C hP _ hl => w_XR_begin_0 C hJ h hP va_S.rf hl)
def m_XR_control_156 (σ : tc_S) : Option (tc_S) := (some σ)
set_option maxHeartbeats 4000000 in
set_option maxRecDepth 100000 in
theorem w_XR_control_156 (C : tc_C p s m args meth c RXR cXR_control 2 none D cA) (hJ : ∀ σ, va_D A (tc_rW ad cA σ)) {q : tc_S} {σ : tc_S} {H : Heap} {locs : List Loc} {ls : Array Slot} (h : m_XR_control_156 σ = some q) (hP : va_P D vwCl (tc_rW ad cA σ) H) (hS : va_S A s.heap H locs) (hl : lv_has ls 2 []) : W p l e (tc_R 2) s m args below meth c H locs 0 0 (MQ below (tc_Qv D (tc_rW ad cA q) A) args s 0 0 A) (F0 m 156 ls []) := by
  have C0 := C
  obtain ⟨hx, hb, hml, hown, ⟨hK, hN⟩, hr, hlk⟩ := C
  unfold m_XR_control_156 at h
  exact tc_rrv C0 hP hS h dXR_control_156
def m_XR_control (σ : tc_S) (l1 : Int32) : Option (tc_S) := (if (tc_gf σ 21) = 0 then (if (l1 >>> ((14 : Int32) &&& 31)) = 2 then (tc_gd ((l1 >>> ((8 : Int32) &&& 31)) &&& 15) 16 (m_XR_control_156 (tc_sf (tc_sa σ 5 ((l1 >>> ((8 : Int32) &&& 31)) &&& 15) (l1 &&& 255)) 20 ((tc_gf (tc_sa σ 5 ((l1 >>> ((8 : Int32) &&& 31)) &&& 15) (l1 &&& 255)) 20) &&& 60)))) else (m_XR_control_156 (tc_sf (tc_sf (tc_sf σ 19 (((tc_gf σ 19) &&& 49152) ||| (l1 &&& 16383))) 20 (((tc_gf (tc_sf σ 19 (((tc_gf σ 19) &&& 49152) ||| (l1 &&& 16383))) 20) &&& 60) ||| (l1 >>> ((14 : Int32) &&& 31)))) 21 1))) else (if ((tc_gf (tc_sf (tc_sf (tc_sf σ 21 0) 19 (((tc_gf (tc_sf σ 21 0) 19) &&& 16383) ||| ((l1 &&& 3) <<< ((14 : Int32) &&& 31)))) 20 (((tc_gf (tc_sf (tc_sf σ 21 0) 19 (((tc_gf (tc_sf σ 21 0) 19) &&& 16383) ||| ((l1 &&& 3) <<< ((14 : Int32) &&& 31)))) 20) &&& 3) ||| (((l1 >>> ((4 : Int32) &&& 31)) &&& 15) <<< ((2 : Int32) &&& 31)))) 20) &&& 32) = 0 then (m_XR_control_156 (tc_sf (tc_sf (tc_sf σ 21 0) 19 (((tc_gf (tc_sf σ 21 0) 19) &&& 16383) ||| ((l1 &&& 3) <<< ((14 : Int32) &&& 31)))) 20 (((tc_gf (tc_sf (tc_sf σ 21 0) 19 (((tc_gf (tc_sf σ 21 0) 19) &&& 16383) ||| ((l1 &&& 3) <<< ((14 : Int32) &&& 31)))) 20) &&& 3) ||| (((l1 >>> ((4 : Int32) &&& 31)) &&& 15) <<< ((2 : Int32) &&& 31))))) else (tc_gd 1 16 (if ((tc_ga (tc_sf (tc_sf (tc_sf σ 21 0) 19 (((tc_gf (tc_sf σ 21 0) 19) &&& 16383) ||| ((l1 &&& 3) <<< ((14 : Int32) &&& 31)))) 20 (((tc_gf (tc_sf (tc_sf σ 21 0) 19 (((tc_gf (tc_sf σ 21 0) 19) &&& 16383) ||| ((l1 &&& 3) <<< ((14 : Int32) &&& 31)))) 20) &&& 3) ||| (((l1 >>> ((4 : Int32) &&& 31)) &&& 15) <<< ((2 : Int32) &&& 31)))) 5 1) &&& 16) = 0 then (m_XR_control_156 (tc_sf (tc_sf (tc_sf σ 21 0) 19 (((tc_gf (tc_sf σ 21 0) 19) &&& 16383) ||| ((l1 &&& 3) <<< ((14 : Int32) &&& 31)))) 20 (((tc_gf (tc_sf (tc_sf σ 21 0) 19 (((tc_gf (tc_sf σ 21 0) 19) &&& 16383) ||| ((l1 &&& 3) <<< ((14 : Int32) &&& 31)))) 20) &&& 3) ||| (((l1 >>> ((4 : Int32) &&& 31)) &&& 15) <<< ((2 : Int32) &&& 31))))) else ((m_XR_begin (tc_sf (tc_sf (tc_sf σ 21 0) 19 (((tc_gf (tc_sf σ 21 0) 19) &&& 16383) ||| ((l1 &&& 3) <<< ((14 : Int32) &&& 31)))) 20 (((tc_gf (tc_sf (tc_sf σ 21 0) 19 (((tc_gf (tc_sf σ 21 0) 19) &&& 16383) ||| ((l1 &&& 3) <<< ((14 : Int32) &&& 31)))) 20) &&& 3) ||| (((l1 >>> ((4 : Int32) &&& 31)) &&& 15) <<< ((2 : Int32) &&& 31))))).bind (fun q73 => (m_XR_control_156 q73)))))))
set_option maxHeartbeats 4000000 in
set_option maxRecDepth 100000 in
theorem w_XR_control_0 (C : tc_C p s m args meth c RXR cXR_control 2 none D cA) (hJ : ∀ σ, va_D A (tc_rW ad cA σ)) {q : tc_S} {σ : tc_S} {l1 : Int32} {H : Heap} {locs : List Loc} {ls : Array Slot} (h : m_XR_control σ l1 = some q) (hP : va_P D vwCl (tc_rW ad cA σ) H) (hS : va_S A s.heap H locs) (hl : lv_has ls 2 [(0, .ref (ad 0)), (1, .int l1)]) : W p l e (tc_R 2) s m args below meth c H locs 0 0 (MQ below (tc_Qv D (tc_rW ad cA q) A) args s 0 0 A) (F0 m 0 ls []) := by
  have C0 := C
  obtain ⟨hx, hb, hml, hown, ⟨hK, hN⟩, hr, hlk⟩ := C
  unfold m_XR_control at h
  refine lv_aload_n hx hb dXR_control_0 rfl (lv_at hl 0 rfl) ?_
  refine tc_rg21 C0 hP (tc_use hN tw_656) dXR_control_1 ?_
  refine lv_if_eq (tgt := 79) hx hb dXR_control_4 (by decide) (fun hc => ?_) (fun hc => ?_)
  · have h := tc_ip hc h
    refine lv_iload_n hx hb dXR_control_79 rfl (lv_at hl 1 rfl) ?_
    refine lv_bipush (v := 14) hx hb dXR_control_80 (by decide) ?_
    refine lv_ishr hx hb dXR_control_82 ?_
    refine lv_iconst (v := 2) hx hb dXR_control_83 (by decide) ?_
    refine lv_icmp_ne (tgt := 118) hx hb dXR_control_84 (by decide) (fun hc => ?_) (fun hc => ?_)
    · have h := tc_in hc h
      refine lv_aload_n hx hb dXR_control_118 rfl (lv_at hl 0 rfl) ?_
      refine lv_aload_n hx hb dXR_control_119 rfl (lv_at hl 0 rfl) ?_
      refine tc_rg19 C0 hP (tc_use hN tw_654) dXR_control_120 ?_
      refine lv_ldc (v := 49152) hx hb hown (tc_use hN tw_848) dXR_control_123 ?_
      refine lv_iand hx hb dXR_control_125 ?_
      refine lv_iload_n hx hb dXR_control_126 rfl (lv_at hl 1 rfl) ?_
      refine lv_sipush (v := 16383) hx hb dXR_control_127 (by decide) ?_
      refine lv_iand hx hb dXR_control_130 ?_
      refine lv_ior hx hb dXR_control_131 ?_
      refine tc_rp19 C0 hJ hP hS (tc_use hN tw_654) dXR_control_132 (fun H locs hP hS => ?_)
      refine lv_aload_n hx hb dXR_control_135 rfl (lv_at hl 0 rfl) ?_
      refine lv_aload_n hx hb dXR_control_136 rfl (lv_at hl 0 rfl) ?_
      refine tc_rg20 C0 hP (tc_use hN tw_655) dXR_control_137 ?_
      refine lv_bipush (v := 60) hx hb dXR_control_140 (by decide) ?_
      refine lv_iand hx hb dXR_control_142 ?_
      refine lv_iload_n hx hb dXR_control_143 rfl (lv_at hl 1 rfl) ?_
      refine lv_bipush (v := 14) hx hb dXR_control_144 (by decide) ?_
      refine lv_ishr hx hb dXR_control_146 ?_
      refine lv_ior hx hb dXR_control_147 ?_
      refine tc_rp20 C0 hJ hP hS (tc_use hN tw_655) dXR_control_148 (fun H locs hP hS => ?_)
      refine lv_aload_n hx hb dXR_control_151 rfl (lv_at hl 0 rfl) ?_
      refine lv_iconst (v := 1) hx hb dXR_control_152 (by decide) ?_
      refine tc_rp21 C0 hJ hP hS (tc_use hN tw_656) ⟨by decide, by decide⟩ dXR_control_153 (fun H locs hP hS => ?_)
      exact w_XR_control_156 C0 hJ h hP hS (lv_sub hl [] rfl)
    · have h := tc_ip hc h
      refine lv_aload_n hx hb dXR_control_87 rfl (lv_at hl 0 rfl) ?_
      refine tc_rr_XR_regs C0 hP (tc_use hN tw_653) dXR_control_88 ?_
      refine lv_iload_n hx hb dXR_control_91 rfl (lv_at hl 1 rfl) ?_
      refine lv_bipush (v := 8) hx hb dXR_control_92 (by decide) ?_
      refine lv_ishr hx hb dXR_control_94 ?_
      refine lv_bipush (v := 15) hx hb dXR_control_95 (by decide) ?_
      refine lv_iand hx hb dXR_control_97 ?_
      refine lv_iload_n hx hb dXR_control_98 rfl (lv_at hl 1 rfl) ?_
      refine lv_sipush (v := 255) hx hb dXR_control_99 (by decide) ?_
      refine lv_iand hx hb dXR_control_102 ?_
      obtain ⟨hi, h⟩ := tc_gd_some h
      refine tc_rst8 C0 hJ hP hS hi dXR_control_103 (fun H locs hP hS => ?_)
      refine lv_aload_n hx hb dXR_control_104 rfl (lv_at hl 0 rfl) ?_
      refine lv_aload_n hx hb dXR_control_105 rfl (lv_at hl 0 rfl) ?_
      refine tc_rg20 C0 hP (tc_use hN tw_655) dXR_control_106 ?_
      refine lv_bipush (v := 60) hx hb dXR_control_109 (by decide) ?_
      refine lv_iand hx hb dXR_control_111 ?_
      refine tc_rp20 C0 hJ hP hS (tc_use hN tw_655) dXR_control_112 (fun H locs hP hS => ?_)
      refine lv_goto (tgt := 156) hx hb dXR_control_115 (by decide) ?_
      exact w_XR_control_156 C0 hJ h hP hS (lv_sub hl [] rfl)
  · have h := tc_in hc h
    refine lv_aload_n hx hb dXR_control_7 rfl (lv_at hl 0 rfl) ?_
    refine lv_iconst (v := 0) hx hb dXR_control_8 (by decide) ?_
    refine tc_rp21 C0 hJ hP hS (tc_use hN tw_656) ⟨by decide, by decide⟩ dXR_control_9 (fun H locs hP hS => ?_)
    refine lv_aload_n hx hb dXR_control_12 rfl (lv_at hl 0 rfl) ?_
    refine lv_aload_n hx hb dXR_control_13 rfl (lv_at hl 0 rfl) ?_
    refine tc_rg19 C0 hP (tc_use hN tw_654) dXR_control_14 ?_
    refine lv_sipush (v := 16383) hx hb dXR_control_17 (by decide) ?_
    refine lv_iand hx hb dXR_control_20 ?_
    refine lv_iload_n hx hb dXR_control_21 rfl (lv_at hl 1 rfl) ?_
    refine lv_iconst (v := 3) hx hb dXR_control_22 (by decide) ?_
    refine lv_iand hx hb dXR_control_23 ?_
    refine lv_bipush (v := 14) hx hb dXR_control_24 (by decide) ?_
    refine lv_ishl hx hb dXR_control_26 ?_
    refine lv_ior hx hb dXR_control_27 ?_
    refine tc_rp19 C0 hJ hP hS (tc_use hN tw_654) dXR_control_28 (fun H locs hP hS => ?_)
    refine lv_aload_n hx hb dXR_control_31 rfl (lv_at hl 0 rfl) ?_
    refine lv_aload_n hx hb dXR_control_32 rfl (lv_at hl 0 rfl) ?_
    refine tc_rg20 C0 hP (tc_use hN tw_655) dXR_control_33 ?_
    refine lv_iconst (v := 3) hx hb dXR_control_36 (by decide) ?_
    refine lv_iand hx hb dXR_control_37 ?_
    refine lv_iload_n hx hb dXR_control_38 rfl (lv_at hl 1 rfl) ?_
    refine lv_iconst (v := 4) hx hb dXR_control_39 (by decide) ?_
    refine lv_ishr hx hb dXR_control_40 ?_
    refine lv_bipush (v := 15) hx hb dXR_control_41 (by decide) ?_
    refine lv_iand hx hb dXR_control_43 ?_
    refine lv_iconst (v := 2) hx hb dXR_control_44 (by decide) ?_
    refine lv_ishl hx hb dXR_control_45 ?_
    refine lv_ior hx hb dXR_control_46 ?_
    refine tc_rp20 C0 hJ hP hS (tc_use hN tw_655) dXR_control_47 (fun H locs hP hS => ?_)
    refine lv_aload_n hx hb dXR_control_50 rfl (lv_at hl 0 rfl) ?_
    refine tc_rg20 C0 hP (tc_use hN tw_655) dXR_control_51 ?_
    refine lv_bipush (v := 32) hx hb dXR_control_54 (by decide) ?_
    refine lv_iand hx hb dXR_control_56 ?_
    refine lv_if_eq (tgt := 156) hx hb dXR_control_57 (by decide) (fun hc => ?_) (fun hc => ?_)
    · have h := tc_ip hc h
      exact w_XR_control_156 C0 hJ h hP hS (lv_sub hl [] rfl)
    · have h := tc_in hc h
      refine lv_aload_n hx hb dXR_control_60 rfl (lv_at hl 0 rfl) ?_
      refine tc_rr_XR_regs C0 hP (tc_use hN tw_653) dXR_control_61 ?_
      refine lv_iconst (v := 1) hx hb dXR_control_64 (by decide) ?_
      obtain ⟨hi, h⟩ := tc_gd_some h
      refine tc_rld8 C0 hP hi dXR_control_65 ?_
      refine lv_bipush (v := 16) hx hb dXR_control_66 (by decide) ?_
      refine lv_iand hx hb dXR_control_68 ?_
      refine lv_if_eq (tgt := 156) hx hb dXR_control_69 (by decide) (fun hc => ?_) (fun hc => ?_)
      · have h := tc_ip hc h
        exact w_XR_control_156 C0 hJ h hP hS (lv_sub hl [] rfl)
      · have h := tc_in hc h
        refine lv_aload_n hx hb dXR_control_72 rfl (lv_at hl 0 rfl) ?_
        obtain ⟨q73, e73, h⟩ := tc_bd_some h
        refine tc_cVv (As := []) (rest := []) C0 (k_XR_begin hJ e73) tv_XR_159 (by decide) (by decide) hP hS hl 0 rfl rfl (Nat.le_of_ble_eq_true rfl) dXR_control_73 rfl (fun H locs hP hS => ?_)
        refine lv_goto (tgt := 156) hx hb dXR_control_76 (by decide) ?_
        exact w_XR_control_156 C0 hJ h hP hS (lv_sub hl [] rfl)
theorem k_XR_control (hJ : ∀ σ, va_D A (tc_rW ad cA σ)) {σ : tc_S} {l1 : Int32} {q : tc_S} (h : m_XR_control σ l1 = some q) : Met l yXR_control [.code yXR_control cXR_control 2 none] (tc_R 2) (tc_Pc D cA (tc_rW ad cA σ) [.ref (ad 0), .int l1]) (tc_Qv D (tc_rW ad cA q) A) 0 0 A :=
  tc_met (by decide) (Nat.le_of_ble_eq_true rfl) (fun _ _ _ _ _ _ _ C hP _ hl => w_XR_control_0 C hJ h hP va_S.rf hl)
def m_XR_put_132 (σ : tc_S) : Option (tc_S) := ((m_XR_grow σ).bind (fun q133 => (some q133)))
set_option maxHeartbeats 4000000 in
set_option maxRecDepth 100000 in
theorem w_XR_put_132 (C : tc_C p s m args meth c RXR cXR_put 5 none D cA) (hJ : ∀ σ, va_D A (tc_rW ad cA σ)) {q : tc_S} {σ : tc_S} {H : Heap} {locs : List Loc} {ls : Array Slot} (h : m_XR_put_132 σ = some q) (hP : va_P D vwCl (tc_rW ad cA σ) H) (hS : va_S A s.heap H locs) (hl : lv_has ls 5 [(0, .ref (ad 0))]) : W p l e (tc_R 1) s m args below meth c H locs 0 0 (MQ below (tc_Qv D (tc_rW ad cA q) A) args s 0 0 A) (F0 m 132 ls []) := by
  have C0 := C
  obtain ⟨hx, hb, hml, hown, ⟨hK, hN⟩, hr, hlk⟩ := C
  unfold m_XR_put_132 at h
  refine lv_aload_n hx hb dXR_put_132 rfl (lv_at hl 0 rfl) ?_
  obtain ⟨q133, e133, h⟩ := tc_bd_some h
  refine tc_cVv (As := []) (rest := []) C0 (k_XR_grow hJ e133) tv_XR_138 (by decide) (by decide) hP hS hl 0 rfl rfl (Nat.le_of_ble_eq_true rfl) dXR_put_133 rfl (fun H locs hP hS => ?_)
  exact tc_rrv C0 hP hS h dXR_put_136
def m_XR_put_96 (σ : tc_S) (k0 k1 : Int32) : Option (tc_S) := (tc_gd k1 1024 (m_XR_put_132 (tc_sa σ 2 k1 k0)))
set_option maxHeartbeats 4000000 in
set_option maxRecDepth 100000 in
theorem w_XR_put_96 (C : tc_C p s m args meth c RXR cXR_put 5 none D cA) (hJ : ∀ σ, va_D A (tc_rW ad cA σ)) {q : tc_S} {σ : tc_S} {k0 k1 : Int32} {H : Heap} {locs : List Loc} {ls : Array Slot} (h : m_XR_put_96 σ k0 k1 = some q) (hP : va_P D vwCl (tc_rW ad cA σ) H) (hS : va_S A s.heap H locs) (hl : lv_has ls 5 [(0, .ref (ad 0))]) : W p l e (tc_R 1) s m args below meth c H locs 0 0 (MQ below (tc_Qv D (tc_rW ad cA q) A) args s 0 0 A) (F0 m 96 ls [.int k0, .int k1, .ref (ad 5)]) := by
  have C0 := C
  obtain ⟨hx, hb, hml, hown, ⟨hK, hN⟩, hr, hlk⟩ := C
  unfold m_XR_put_96 at h
  obtain ⟨hi, h⟩ := tc_gd_some h
  refine tc_rst5 C0 hJ hP hS hi dXR_put_96 (fun H locs hP hS => ?_)
  refine lv_goto (tgt := 132) hx hb dXR_put_97 (by decide) ?_
  exact w_XR_put_132 C0 hJ h hP hS (lv_sub hl [0] rfl)
def m_XR_put_65 (σ : tc_S) (l1 l3 l4 k0 k1 : Int32) : Option (tc_S) := (tc_gd k1 1024 (if l4 = 0 then (m_XR_put_96 (tc_sa σ 2 k1 k0) (l1 &&& 255) (((l3 - l3 / 512 * 512) * 2) + 1)) else (m_XR_put_96 (tc_sa σ 2 k1 k0) (l1 >>> ((8 : Int32) &&& 31)) (((l3 - l3 / 512 * 512) * 2) + 1))))
set_option maxHeartbeats 4000000 in
set_option maxRecDepth 100000 in
theorem w_XR_put_65 (C : tc_C p s m args meth c RXR cXR_put 5 none D cA) (hJ : ∀ σ, va_D A (tc_rW ad cA σ)) {q : tc_S} {σ : tc_S} {l1 l3 l4 k0 k1 : Int32} {H : Heap} {locs : List Loc} {ls : Array Slot} (h : m_XR_put_65 σ l1 l3 l4 k0 k1 = some q) (hP : va_P D vwCl (tc_rW ad cA σ) H) (hS : va_S A s.heap H locs) (hl : lv_has ls 5 [(0, .ref (ad 0)), (1, .int l1), (3, .int l3), (4, .int l4)]) : W p l e (tc_R 1) s m args below meth c H locs 0 0 (MQ below (tc_Qv D (tc_rW ad cA q) A) args s 0 0 A) (F0 m 65 ls [.int k0, .int k1, .ref (ad 5)]) := by
  have C0 := C
  obtain ⟨hx, hb, hml, hown, ⟨hK, hN⟩, hr, hlk⟩ := C
  unfold m_XR_put_65 at h
  obtain ⟨hi, h⟩ := tc_gd_some h
  refine tc_rst5 C0 hJ hP hS hi dXR_put_65 (fun H locs hP hS => ?_)
  refine lv_aload_n hx hb dXR_put_66 rfl (lv_at hl 0 rfl) ?_
  refine tc_rr_XR_vram C0 hP (tc_use hN tw_650) dXR_put_67 ?_
  refine lv_iload_n hx hb dXR_put_70 rfl (lv_at hl 2 rfl) ?_
  refine lv_sipush (v := 512) hx hb dXR_put_71 (by decide) ?_
  refine lv_irem hx hb dXR_put_74 (by decide) ?_
  refine lv_iconst (v := 2) hx hb dXR_put_75 (by decide) ?_
  refine lv_imul hx hb dXR_put_76 ?_
  refine lv_iconst (v := 1) hx hb dXR_put_77 (by decide) ?_
  refine lv_iadd hx hb dXR_put_78 ?_
  refine lv_iload hx hb dXR_put_79 (lv_at hl 3 rfl) ?_
  refine lv_if_eq (tgt := 91) hx hb dXR_put_81 (by decide) (fun hc => ?_) (fun hc => ?_)
  · have h := tc_ip hc h
    refine lv_iload_n hx hb dXR_put_91 rfl (lv_at hl 1 rfl) ?_
    refine lv_sipush (v := 255) hx hb dXR_put_92 (by decide) ?_
    refine lv_iand hx hb dXR_put_95 ?_
    exact w_XR_put_96 C0 hJ h hP hS (lv_sub hl [0] rfl)
  · have h := tc_in hc h
    refine lv_iload_n hx hb dXR_put_84 rfl (lv_at hl 1 rfl) ?_
    refine lv_bipush (v := 8) hx hb dXR_put_85 (by decide) ?_
    refine lv_ishr hx hb dXR_put_87 ?_
    refine lv_goto (tgt := 96) hx hb dXR_put_88 (by decide) ?_
    exact w_XR_put_96 C0 hJ h hP hS (lv_sub hl [0] rfl)
def m_XR_put_35 (σ : tc_S) (l1 l3 k0 : Int32) : Option (tc_S) := (if k0 = 0 then (m_XR_put_65 σ l1 l3 k0 (l1 >>> ((8 : Int32) &&& 31)) ((l3 - l3 / 512 * 512) * 2)) else (m_XR_put_65 σ l1 l3 k0 (l1 &&& 255) ((l3 - l3 / 512 * 512) * 2)))
set_option maxHeartbeats 4000000 in
set_option maxRecDepth 100000 in
theorem w_XR_put_35 (C : tc_C p s m args meth c RXR cXR_put 5 none D cA) (hJ : ∀ σ, va_D A (tc_rW ad cA σ)) {q : tc_S} {σ : tc_S} {l1 l3 k0 : Int32} {H : Heap} {locs : List Loc} {ls : Array Slot} (h : m_XR_put_35 σ l1 l3 k0 = some q) (hP : va_P D vwCl (tc_rW ad cA σ) H) (hS : va_S A s.heap H locs) (hl : lv_has ls 5 [(0, .ref (ad 0)), (1, .int l1), (3, .int l3)]) : W p l e (tc_R 1) s m args below meth c H locs 0 0 (MQ below (tc_Qv D (tc_rW ad cA q) A) args s 0 0 A) (F0 m 35 ls [.int k0]) := by
  have C0 := C
  obtain ⟨hx, hb, hml, hown, ⟨hK, hN⟩, hr, hlk⟩ := C
  unfold m_XR_put_35 at h
  refine lv_istore (lv' := [(4, .int k0), (0, .ref (ad 0)), (1, .int l1), (3, .int l3)]) hx hb dXR_put_35 hl (by decide) rfl (fun ls hl => ?_)
  refine lv_aload_n hx hb dXR_put_37 rfl (lv_at hl 1 rfl) ?_
  refine tc_rr_XR_vram C0 hP (tc_use hN tw_650) dXR_put_38 ?_
  refine lv_iload_n hx hb dXR_put_41 rfl (lv_at hl 3 rfl) ?_
  refine lv_sipush (v := 512) hx hb dXR_put_42 (by decide) ?_
  refine lv_irem hx hb dXR_put_45 (by decide) ?_
  refine lv_iconst (v := 2) hx hb dXR_put_46 (by decide) ?_
  refine lv_imul hx hb dXR_put_47 ?_
  refine lv_iload hx hb dXR_put_48 (lv_at hl 0 rfl) ?_
  refine lv_if_eq (tgt := 61) hx hb dXR_put_50 (by decide) (fun hc => ?_) (fun hc => ?_)
  · have h := tc_ip hc h
    refine lv_iload_n hx hb dXR_put_61 rfl (lv_at hl 2 rfl) ?_
    refine lv_bipush (v := 8) hx hb dXR_put_62 (by decide) ?_
    refine lv_ishr hx hb dXR_put_64 ?_
    exact w_XR_put_65 C0 hJ h hP hS (lv_sub hl [1, 2, 3, 0] rfl)
  · have h := tc_in hc h
    refine lv_iload_n hx hb dXR_put_53 rfl (lv_at hl 2 rfl) ?_
    refine lv_sipush (v := 255) hx hb dXR_put_54 (by decide) ?_
    refine lv_iand hx hb dXR_put_57 ?_
    refine lv_goto (tgt := 65) hx hb dXR_put_58 (by decide) ?_
    exact w_XR_put_65 C0 hJ h hP hS (lv_sub hl [1, 2, 3, 0] rfl)
def m_XR_put (σ : tc_S) (l1 : Int32) : Option (tc_S) := (if ((tc_gf σ 20) &&& 15) = 1 then (if ((tc_gf σ 19) - (tc_gf σ 19) / 2 * 2) = 1 then (m_XR_put_35 σ l1 ((tc_gf σ 19) / 2) 1) else (m_XR_put_35 σ l1 ((tc_gf σ 19) / 2) 0)) else (if ((tc_gf σ 20) &&& 15) = 3 then (tc_gd (((tc_gf σ 19) / 2) - ((tc_gf σ 19) / 2) / 16 * 16) 16 (m_XR_put_132 (tc_sa σ 3 (((tc_gf σ 19) / 2) - ((tc_gf σ 19) / 2) / 16 * 16) l1))) else (if ((tc_gf σ 20) &&& 15) = 5 then (tc_gd (((tc_gf σ 19) / 2) - ((tc_gf σ 19) / 2) / 2 * 2) 2 (m_XR_put_132 (tc_sa σ 4 (((tc_gf σ 19) / 2) - ((tc_gf σ 19) / 2) / 2 * 2) l1))) else (m_XR_put_132 σ))))
set_option maxHeartbeats 4000000 in
set_option maxRecDepth 100000 in
theorem w_XR_put_0 (C : tc_C p s m args meth c RXR cXR_put 5 none D cA) (hJ : ∀ σ, va_D A (tc_rW ad cA σ)) {q : tc_S} {σ : tc_S} {l1 : Int32} {H : Heap} {locs : List Loc} {ls : Array Slot} (h : m_XR_put σ l1 = some q) (hP : va_P D vwCl (tc_rW ad cA σ) H) (hS : va_S A s.heap H locs) (hl : lv_has ls 5 [(0, .ref (ad 0)), (1, .int l1)]) : W p l e (tc_R 1) s m args below meth c H locs 0 0 (MQ below (tc_Qv D (tc_rW ad cA q) A) args s 0 0 A) (F0 m 0 ls []) := by
  have C0 := C
  obtain ⟨hx, hb, hml, hown, ⟨hK, hN⟩, hr, hlk⟩ := C
  unfold m_XR_put at h
  refine lv_aload_n hx hb dXR_put_0 rfl (lv_at hl 0 rfl) ?_
  refine tc_rg20 C0 hP (tc_use hN tw_655) dXR_put_1 ?_
  refine lv_bipush (v := 15) hx hb dXR_put_4 (by decide) ?_
  refine lv_iand hx hb dXR_put_6 ?_
  refine lv_istore_n (lv' := [(2, .int ((tc_gf σ 20) &&& 15)), (0, .ref (ad 0)), (1, .int l1)]) hx hb dXR_put_7 rfl hl (by decide) rfl (fun ls hl => ?_)
  refine lv_aload_n hx hb dXR_put_8 rfl (lv_at hl 1 rfl) ?_
  refine tc_rg19 C0 hP (tc_use hN tw_654) dXR_put_9 ?_
  refine lv_iconst (v := 2) hx hb dXR_put_12 (by decide) ?_
  refine lv_idiv hx hb dXR_put_13 (by decide) ?_
  refine lv_istore_n (lv' := [(3, .int ((tc_gf σ 19) / 2)), (2, .int ((tc_gf σ 20) &&& 15)), (0, .ref (ad 0)), (1, .int l1)]) hx hb dXR_put_14 rfl hl (by decide) rfl (fun ls hl => ?_)
  refine lv_iload_n hx hb dXR_put_15 rfl (lv_at hl 1 rfl) ?_
  refine lv_iconst (v := 1) hx hb dXR_put_16 (by decide) ?_
  refine lv_icmp_ne (tgt := 100) hx hb dXR_put_17 (by decide) (fun hc => ?_) (fun hc => ?_)
  · have h := tc_in hc h
    refine lv_iload_n hx hb dXR_put_100 rfl (lv_at hl 1 rfl) ?_
    refine lv_iconst (v := 3) hx hb dXR_put_101 (by decide) ?_
    refine lv_icmp_ne (tgt := 118) hx hb dXR_put_102 (by decide) (fun hc => ?_) (fun hc => ?_)
    · have h := tc_in hc h
      refine lv_iload_n hx hb dXR_put_118 rfl (lv_at hl 1 rfl) ?_
      refine lv_iconst (v := 5) hx hb dXR_put_119 (by decide) ?_
      refine lv_icmp_ne (tgt := 132) hx hb dXR_put_120 (by decide) (fun hc => ?_) (fun hc => ?_)
      · have h := tc_in hc h
        exact w_XR_put_132 C0 hJ h hP hS (lv_sub hl [2] rfl)
      · have h := tc_ip hc h
        refine lv_aload_n hx hb dXR_put_123 rfl (lv_at hl 2 rfl) ?_
        refine tc_rr_XR_vsram C0 hP (tc_use hN tw_652) dXR_put_124 ?_
        refine lv_iload_n hx hb dXR_put_127 rfl (lv_at hl 0 rfl) ?_
        refine lv_iconst (v := 2) hx hb dXR_put_128 (by decide) ?_
        refine lv_irem hx hb dXR_put_129 (by decide) ?_
        refine lv_iload_n hx hb dXR_put_130 rfl (lv_at hl 3 rfl) ?_
        obtain ⟨hi, h⟩ := tc_gd_some h
        refine tc_rst7 C0 hJ hP hS hi dXR_put_131 (fun H locs hP hS => ?_)
        exact w_XR_put_132 C0 hJ h hP hS (lv_sub hl [2] rfl)
    · have h := tc_ip hc h
      refine lv_aload_n hx hb dXR_put_105 rfl (lv_at hl 2 rfl) ?_
      refine tc_rr_XR_cram C0 hP (tc_use hN tw_651) dXR_put_106 ?_
      refine lv_iload_n hx hb dXR_put_109 rfl (lv_at hl 0 rfl) ?_
      refine lv_bipush (v := 16) hx hb dXR_put_110 (by decide) ?_
      refine lv_irem hx hb dXR_put_112 (by decide) ?_
      refine lv_iload_n hx hb dXR_put_113 rfl (lv_at hl 3 rfl) ?_
      obtain ⟨hi, h⟩ := tc_gd_some h
      refine tc_rst6 C0 hJ hP hS hi dXR_put_114 (fun H locs hP hS => ?_)
      refine lv_goto (tgt := 132) hx hb dXR_put_115 (by decide) ?_
      exact w_XR_put_132 C0 hJ h hP hS (lv_sub hl [2] rfl)
  · have h := tc_ip hc h
    refine lv_aload_n hx hb dXR_put_20 rfl (lv_at hl 2 rfl) ?_
    refine tc_rg19 C0 hP (tc_use hN tw_654) dXR_put_21 ?_
    refine lv_iconst (v := 2) hx hb dXR_put_24 (by decide) ?_
    refine lv_irem hx hb dXR_put_25 (by decide) ?_
    refine lv_iconst (v := 1) hx hb dXR_put_26 (by decide) ?_
    refine lv_icmp_ne (tgt := 34) hx hb dXR_put_27 (by decide) (fun hc => ?_) (fun hc => ?_)
    · have h := tc_in hc h
      refine lv_iconst (v := 0) hx hb dXR_put_34 (by decide) ?_
      exact w_XR_put_35 C0 hJ h hP hS (lv_sub hl [2, 3, 0] rfl)
    · have h := tc_ip hc h
      refine lv_iconst (v := 1) hx hb dXR_put_30 (by decide) ?_
      refine lv_goto (tgt := 35) hx hb dXR_put_31 (by decide) ?_
      exact w_XR_put_35 C0 hJ h hP hS (lv_sub hl [2, 3, 0] rfl)
theorem k_XR_put (hJ : ∀ σ, va_D A (tc_rW ad cA σ)) {σ : tc_S} {l1 : Int32} {q : tc_S} (h : m_XR_put σ l1 = some q) : Met l yXR_put [.code yXR_put cXR_put 5 none] (tc_R 1) (tc_Pc D cA (tc_rW ad cA σ) [.ref (ad 0), .int l1]) (tc_Qv D (tc_rW ad cA q) A) 0 0 A :=
  tc_met (by decide) (Nat.le_of_ble_eq_true rfl) (fun _ _ _ _ _ _ _ C hP _ hl => w_XR_put_0 C hJ h hP va_S.rf hl)
def m_XR_writeData_67 (σ : tc_S) : Option (tc_S) := (some σ)
set_option maxHeartbeats 4000000 in
set_option maxRecDepth 100000 in
theorem w_XR_writeData_67 (C : tc_C p s m args meth c RXR cXR_writeData 4 none D cA) (hJ : ∀ σ, va_D A (tc_rW ad cA σ)) {q : tc_S} {σ : tc_S} {H : Heap} {locs : List Loc} {ls : Array Slot} (h : m_XR_writeData_67 σ = some q) (hP : va_P D vwCl (tc_rW ad cA σ) H) (hS : va_S A s.heap H locs) (hl : lv_has ls 4 []) : W p l e (tc_R 2) s m args below meth c H locs 0 0 (MQ below (tc_Qv D (tc_rW ad cA q) A) args s 0 0 A) (F0 m 67 ls []) := by
  have C0 := C
  obtain ⟨hx, hb, hml, hown, ⟨hK, hN⟩, hr, hlk⟩ := C
  unfold m_XR_writeData_67 at h
  exact tc_rrv C0 hP hS h dXR_writeData_67
def m_XR_writeData_29 : Nat → tc_S → Int32 → Int32 → Int32 → Option (tc_S)
  | 0, _, _, _, _ => none
  | n + 1, σ, l1, l2, l3 => (if l2 ≤ l3 then ((m_XR_endMove σ).bind (fun q64 => (m_XR_writeData_67 q64))) else (tc_gd (((tc_gf σ 19) ^^^ 1) - ((tc_gf σ 19) ^^^ 1) / 1024 * 1024) 1024 ((m_XR_grow (tc_sa σ 2 (((tc_gf σ 19) ^^^ 1) - ((tc_gf σ 19) ^^^ 1) / 1024 * 1024) (l1 >>> ((8 : Int32) &&& 31)))).bind (fun q54 => (m_XR_writeData_29 n q54 l1 l2 (l3 + 1))))))
set_option maxHeartbeats 4000000 in
set_option maxRecDepth 100000 in
theorem w_XR_writeData_29 (C : tc_C p s m args meth c RXR cXR_writeData 4 none D cA) (hJ : ∀ σ, va_D A (tc_rW ad cA σ)) {q : tc_S} : ∀ (n : Nat) {σ : tc_S} {l1 l2 l3 : Int32} {H : Heap} {locs : List Loc} {ls : Array Slot} (h : m_XR_writeData_29 n σ l1 l2 l3 = some q) (hP : va_P D vwCl (tc_rW ad cA σ) H) (hS : va_S A s.heap H locs) (hl : lv_has ls 4 [(0, .ref (ad 0)), (1, .int l1), (2, .int l2), (3, .int l3)]), W p l e (tc_R 2) s m args below meth c H locs 0 0 (MQ below (tc_Qv D (tc_rW ad cA q) A) args s 0 0 A) (F0 m 29 ls []) := by
  have C0 := C
  obtain ⟨hx, hb, hml, hown, ⟨hK, hN⟩, hr, hlk⟩ := C
  intro n
  induction n with
  | zero =>
    intro σ l1 l2 l3 H locs ls h hP hS hl
    exact absurd h (by simp [m_XR_writeData_29])
  | succ n ih =>
    intro σ l1 l2 l3 H locs ls h hP hS hl
    unfold m_XR_writeData_29 at h
    refine lv_iload_n hx hb dXR_writeData_29 rfl (lv_at hl 3 rfl) ?_
    refine lv_iload_n hx hb dXR_writeData_30 rfl (lv_at hl 2 rfl) ?_
    refine lv_icmp_ge (tgt := 63) hx hb dXR_writeData_31 (by decide) (fun hc => ?_) (fun hc => ?_)
    · have h := tc_ip hc h
      refine lv_aload_n hx hb dXR_writeData_63 rfl (lv_at hl 0 rfl) ?_
      obtain ⟨q64, e64, h⟩ := tc_bd_some h
      refine tc_cVv (As := []) (rest := []) C0 (k_XR_endMove hJ e64) tv_XR_150 (by decide) (by decide) hP hS hl 0 rfl rfl (Nat.le_of_ble_eq_true rfl) dXR_writeData_64 rfl (fun H locs hP hS => ?_)
      exact w_XR_writeData_67 C0 hJ h hP hS (lv_sub hl [] rfl)
    · have h := tc_in hc h
      refine lv_aload_n hx hb dXR_writeData_34 rfl (lv_at hl 0 rfl) ?_
      refine tc_rr_XR_vram C0 hP (tc_use hN tw_650) dXR_writeData_35 ?_
      refine lv_aload_n hx hb dXR_writeData_38 rfl (lv_at hl 0 rfl) ?_
      refine tc_rg19 C0 hP (tc_use hN tw_654) dXR_writeData_39 ?_
      refine lv_iconst (v := 1) hx hb dXR_writeData_42 (by decide) ?_
      refine lv_ixor hx hb dXR_writeData_43 ?_
      refine lv_sipush (v := 1024) hx hb dXR_writeData_44 (by decide) ?_
      refine lv_irem hx hb dXR_writeData_47 (by decide) ?_
      refine lv_iload_n hx hb dXR_writeData_48 rfl (lv_at hl 1 rfl) ?_
      refine lv_bipush (v := 8) hx hb dXR_writeData_49 (by decide) ?_
      refine lv_ishr hx hb dXR_writeData_51 ?_
      obtain ⟨hi, h⟩ := tc_gd_some h
      refine tc_rst5 C0 hJ hP hS hi dXR_writeData_52 (fun H locs hP hS => ?_)
      refine lv_aload_n hx hb dXR_writeData_53 rfl (lv_at hl 0 rfl) ?_
      obtain ⟨q54, e54, h⟩ := tc_bd_some h
      refine tc_cVv (As := []) (rest := []) C0 (k_XR_grow hJ e54) tv_XR_138 (by decide) (by decide) hP hS hl 0 rfl rfl (Nat.le_of_ble_eq_true rfl) dXR_writeData_54 rfl (fun H locs hP hS => ?_)
      refine lv_iinc (k := 3) (v := (l3 + 1)) (lv' := [(3, .int (l3 + 1)), (0, .ref (ad 0)), (1, .int l1), (2, .int l2)]) hx hb dXR_writeData_57 hl rfl rfl (by decide) rfl (fun ls hl => ?_)
      refine lv_goto (tgt := 29) hx hb dXR_writeData_60 (by decide) ?_
      exact ih h hP hS (lv_sub hl [1, 2, 3, 0] rfl)
def m_XR_writeData (σ : tc_S) (l1 : Int32) : Option (tc_S) := ((m_XR_put (tc_sf σ 21 0) l1).bind (fun q7 => (if (tc_gf q7 22) = 0 then (m_XR_writeData_67 q7) else ((m_XR_length (tc_sf q7 22 0)).bind (fun q23 => (m_XR_writeData_29 2000 q23.2 l1 q23.1 0))))))
set_option maxHeartbeats 4000000 in
set_option maxRecDepth 100000 in
theorem w_XR_writeData_0 (C : tc_C p s m args meth c RXR cXR_writeData 4 none D cA) (hJ : ∀ σ, va_D A (tc_rW ad cA σ)) {q : tc_S} {σ : tc_S} {l1 : Int32} {H : Heap} {locs : List Loc} {ls : Array Slot} (h : m_XR_writeData σ l1 = some q) (hP : va_P D vwCl (tc_rW ad cA σ) H) (hS : va_S A s.heap H locs) (hl : lv_has ls 4 [(0, .ref (ad 0)), (1, .int l1)]) : W p l e (tc_R 2) s m args below meth c H locs 0 0 (MQ below (tc_Qv D (tc_rW ad cA q) A) args s 0 0 A) (F0 m 0 ls []) := by
  have C0 := C
  obtain ⟨hx, hb, hml, hown, ⟨hK, hN⟩, hr, hlk⟩ := C
  unfold m_XR_writeData at h
  refine lv_aload_n hx hb dXR_writeData_0 rfl (lv_at hl 0 rfl) ?_
  refine lv_iconst (v := 0) hx hb dXR_writeData_1 (by decide) ?_
  refine tc_rp21 C0 hJ hP hS (tc_use hN tw_656) ⟨by decide, by decide⟩ dXR_writeData_2 (fun H locs hP hS => ?_)
  refine lv_aload_n hx hb dXR_writeData_5 rfl (lv_at hl 0 rfl) ?_
  refine lv_iload_n hx hb dXR_writeData_6 rfl (lv_at hl 1 rfl) ?_
  obtain ⟨q7, e7, h⟩ := tc_bd_some h
  refine tc_cVv (As := [.int l1]) (rest := []) C0 (k_XR_put hJ e7) tv_XR_141 (by decide) (by decide) hP hS hl 0 rfl rfl (Nat.le_of_ble_eq_true rfl) dXR_writeData_7 rfl (fun H locs hP hS => ?_)
  refine lv_aload_n hx hb dXR_writeData_10 rfl (lv_at hl 0 rfl) ?_
  refine tc_rg22 C0 hP (tc_use hN tw_657) dXR_writeData_11 ?_
  refine lv_if_eq (tgt := 67) hx hb dXR_writeData_14 (by decide) (fun hc => ?_) (fun hc => ?_)
  · have h := tc_ip hc h
    exact w_XR_writeData_67 C0 hJ h hP hS (lv_sub hl [] rfl)
  · have h := tc_in hc h
    refine lv_aload_n hx hb dXR_writeData_17 rfl (lv_at hl 0 rfl) ?_
    refine lv_iconst (v := 0) hx hb dXR_writeData_18 (by decide) ?_
    refine tc_rp22 C0 hJ hP hS (tc_use hN tw_657) ⟨by decide, by decide⟩ dXR_writeData_19 (fun H locs hP hS => ?_)
    refine lv_aload_n hx hb dXR_writeData_22 rfl (lv_at hl 0 rfl) ?_
    obtain ⟨q23, e23, h⟩ := tc_bd_some h
    refine tc_cVi (As := []) (rest := []) C0 (k_XR_length hJ e23) tv_XR_147 (by decide) (by decide) hP hS hl 0 rfl rfl (Nat.le_of_ble_eq_true rfl) dXR_writeData_23 rfl (fun H locs hP hS => ?_)
    refine lv_istore_n (lv' := [(2, .int q23.1), (0, .ref (ad 0)), (1, .int l1)]) hx hb dXR_writeData_26 rfl hl (by decide) rfl (fun ls hl => ?_)
    refine lv_iconst (v := 0) hx hb dXR_writeData_27 (by decide) ?_
    refine lv_istore_n (lv' := [(3, .int 0), (2, .int q23.1), (0, .ref (ad 0)), (1, .int l1)]) hx hb dXR_writeData_28 rfl hl (by decide) rfl (fun ls hl => ?_)
    exact w_XR_writeData_29 C0 hJ _ h hP hS (lv_sub hl [2, 3, 1, 0] rfl)
theorem k_XR_writeData (hJ : ∀ σ, va_D A (tc_rW ad cA σ)) {σ : tc_S} {l1 : Int32} {q : tc_S} (h : m_XR_writeData σ l1 = some q) : Met l yXR_writeData [.code yXR_writeData cXR_writeData 4 none] (tc_R 2) (tc_Pc D cA (tc_rW ad cA σ) [.ref (ad 0), .int l1]) (tc_Qv D (tc_rW ad cA q) A) 0 0 A :=
  tc_met (by decide) (Nat.le_of_ble_eq_true rfl) (fun _ _ _ _ _ _ _ C hP _ hl => w_XR_writeData_0 C hJ h hP va_S.rf hl)
def m_XR_write_196 (σ : tc_S) : Option (tc_S) := (some σ)
set_option maxHeartbeats 4000000 in
set_option maxRecDepth 100000 in
theorem w_XR_write_196 (C : tc_C p s m args meth c RXR cXR_write 3 none D cA) (hJ : ∀ σ, va_D A (tc_rW ad cA σ)) {q : tc_S} {σ : tc_S} {H : Heap} {locs : List Loc} {ls : Array Slot} (h : m_XR_write_196 σ = some q) (hP : va_P D vwCl (tc_rW ad cA σ) H) (hS : va_S A s.heap H locs) (hl : lv_has ls 3 []) : W p l e (tc_R 3) s m args below meth c H locs 0 0 (MQ below (tc_Qv D (tc_rW ad cA q) A) args s 0 0 A) (F0 m 196 ls []) := by
  have C0 := C
  obtain ⟨hx, hb, hml, hown, ⟨hK, hN⟩, hr, hlk⟩ := C
  unfold m_XR_write_196 at h
  exact tc_rrv C0 hP hS h dXR_write_196
def m_XR_write_173 (σ : tc_S) (k0 : Int32) : Option (tc_S) := ((m_XR_resetSecond σ k0).bind (fun q173 => (m_XR_write_196 q173)))
set_option maxHeartbeats 4000000 in
set_option maxRecDepth 100000 in
theorem w_XR_write_173 (C : tc_C p s m args meth c RXR cXR_write 3 none D cA) (hJ : ∀ σ, va_D A (tc_rW ad cA σ)) {q : tc_S} {σ : tc_S} {k0 : Int32} {H : Heap} {locs : List Loc} {ls : Array Slot} (h : m_XR_write_173 σ k0 = some q) (hP : va_P D vwCl (tc_rW ad cA σ) H) (hS : va_S A s.heap H locs) (hl : lv_has ls 3 []) : W p l e (tc_R 3) s m args below meth c H locs 0 0 (MQ below (tc_Qv D (tc_rW ad cA q) A) args s 0 0 A) (F0 m 173 ls [.int k0, .ref (ad 0)]) := by
  have C0 := C
  obtain ⟨hx, hb, hml, hown, ⟨hK, hN⟩, hr, hlk⟩ := C
  unfold m_XR_write_173 at h
  obtain ⟨q173, e173, h⟩ := tc_bd_some h
  refine tc_cVv (As := [.int k0]) (rest := []) C0 (k_XR_resetSecond hJ e173) tv_XR_100 (by decide) (by decide) hP hS hl 0 rfl rfl (Nat.le_of_ble_eq_true rfl) dXR_write_173 rfl (fun H locs hP hS => ?_)
  refine lv_goto (tgt := 196) hx hb dXR_write_176 (by decide) ?_
  exact w_XR_write_196 C0 hJ h hP hS (lv_sub hl [] rfl)
def m_XR_write_145 (σ : tc_S) (k0 : Int32) : Option (tc_S) := (tc_gb k0 (m_XR_write_196 (tc_sf σ 15 k0)))
set_option maxHeartbeats 4000000 in
set_option maxRecDepth 100000 in
theorem w_XR_write_145 (C : tc_C p s m args meth c RXR cXR_write 3 none D cA) (hJ : ∀ σ, va_D A (tc_rW ad cA σ)) {q : tc_S} {σ : tc_S} {k0 : Int32} {H : Heap} {locs : List Loc} {ls : Array Slot} (h : m_XR_write_145 σ k0 = some q) (hP : va_P D vwCl (tc_rW ad cA σ) H) (hS : va_S A s.heap H locs) (hl : lv_has ls 3 []) : W p l e (tc_R 3) s m args below meth c H locs 0 0 (MQ below (tc_Qv D (tc_rW ad cA q) A) args s 0 0 A) (F0 m 145 ls [.int k0, .ref (ad 0)]) := by
  have C0 := C
  obtain ⟨hx, hb, hml, hown, ⟨hK, hN⟩, hr, hlk⟩ := C
  unfold m_XR_write_145 at h
  obtain ⟨hz, h⟩ := tc_gb_some h
  refine tc_rp15 C0 hJ hP hS (tc_use hN tw_646) hz dXR_write_145 (fun H locs hP hS => ?_)
  refine lv_goto (tgt := 196) hx hb dXR_write_148 (by decide) ?_
  exact w_XR_write_196 C0 hJ h hP hS (lv_sub hl [] rfl)
def m_XR_write_92 (σ : tc_S) (l1 l2 : Int32) : Option (tc_S) := (if l1 = 1024 then ((m_XR_writeData σ l2).bind (fun q101 => (m_XR_write_196 q101))) else (if l1 = 1028 then ((m_XR_control σ l2).bind (fun q116 => (m_XR_write_196 q116))) else (if l1 = 1040 then (if ((l2 >>> ((8 : Int32) &&& 31)) &&& 1) = 1 then (m_XR_write_145 σ 1) else (m_XR_write_145 σ 0)) else (if l1 = 1044 then (if ((l2 >>> ((8 : Int32) &&& 31)) &&& 1) = 0 then (m_XR_write_173 σ 1) else (m_XR_write_173 σ 0)) else (if l1 = 1048 then (m_XR_write_196 (tc_sf σ 33 ((l2 >>> ((6 : Int32) &&& 31)) &&& 1))) else (m_XR_write_196 σ))))))
set_option maxHeartbeats 4000000 in
set_option maxRecDepth 100000 in
theorem w_XR_write_92 (C : tc_C p s m args meth c RXR cXR_write 3 none D cA) (hJ : ∀ σ, va_D A (tc_rW ad cA σ)) {q : tc_S} {σ : tc_S} {l1 l2 : Int32} {H : Heap} {locs : List Loc} {ls : Array Slot} (h : m_XR_write_92 σ l1 l2 = some q) (hP : va_P D vwCl (tc_rW ad cA σ) H) (hS : va_S A s.heap H locs) (hl : lv_has ls 3 [(0, .ref (ad 0)), (1, .int l1), (2, .int l2)]) : W p l e (tc_R 3) s m args below meth c H locs 0 0 (MQ below (tc_Qv D (tc_rW ad cA q) A) args s 0 0 A) (F0 m 92 ls []) := by
  have C0 := C
  obtain ⟨hx, hb, hml, hown, ⟨hK, hN⟩, hr, hlk⟩ := C
  unfold m_XR_write_92 at h
  refine lv_iload_n hx hb dXR_write_92 rfl (lv_at hl 1 rfl) ?_
  refine lv_sipush (v := 1024) hx hb dXR_write_93 (by decide) ?_
  refine lv_icmp_ne (tgt := 107) hx hb dXR_write_96 (by decide) (fun hc => ?_) (fun hc => ?_)
  · have h := tc_in hc h
    refine lv_iload_n hx hb dXR_write_107 rfl (lv_at hl 1 rfl) ?_
    refine lv_sipush (v := 1028) hx hb dXR_write_108 (by decide) ?_
    refine lv_icmp_ne (tgt := 122) hx hb dXR_write_111 (by decide) (fun hc => ?_) (fun hc => ?_)
    · have h := tc_in hc h
      refine lv_iload_n hx hb dXR_write_122 rfl (lv_at hl 1 rfl) ?_
      refine lv_sipush (v := 1040) hx hb dXR_write_123 (by decide) ?_
      refine lv_icmp_ne (tgt := 151) hx hb dXR_write_126 (by decide) (fun hc => ?_) (fun hc => ?_)
      · have h := tc_in hc h
        refine lv_iload_n hx hb dXR_write_151 rfl (lv_at hl 1 rfl) ?_
        refine lv_sipush (v := 1044) hx hb dXR_write_152 (by decide) ?_
        refine lv_icmp_ne (tgt := 179) hx hb dXR_write_155 (by decide) (fun hc => ?_) (fun hc => ?_)
        · have h := tc_in hc h
          refine lv_iload_n hx hb dXR_write_179 rfl (lv_at hl 1 rfl) ?_
          refine lv_sipush (v := 1048) hx hb dXR_write_180 (by decide) ?_
          refine lv_icmp_ne (tgt := 196) hx hb dXR_write_183 (by decide) (fun hc => ?_) (fun hc => ?_)
          · have h := tc_in hc h
            exact w_XR_write_196 C0 hJ h hP hS (lv_sub hl [] rfl)
          · have h := tc_ip hc h
            refine lv_aload_n hx hb dXR_write_186 rfl (lv_at hl 0 rfl) ?_
            refine lv_iload_n hx hb dXR_write_187 rfl (lv_at hl 2 rfl) ?_
            refine lv_bipush (v := 6) hx hb dXR_write_188 (by decide) ?_
            refine lv_ishr hx hb dXR_write_190 ?_
            refine lv_iconst (v := 1) hx hb dXR_write_191 (by decide) ?_
            refine lv_iand hx hb dXR_write_192 ?_
            refine tc_rp33 C0 hJ hP hS (tc_use hN tw_637) dXR_write_193 (fun H locs hP hS => ?_)
            exact w_XR_write_196 C0 hJ h hP hS (lv_sub hl [] rfl)
        · have h := tc_ip hc h
          refine lv_aload_n hx hb dXR_write_158 rfl (lv_at hl 0 rfl) ?_
          refine lv_iload_n hx hb dXR_write_159 rfl (lv_at hl 2 rfl) ?_
          refine lv_bipush (v := 8) hx hb dXR_write_160 (by decide) ?_
          refine lv_ishr hx hb dXR_write_162 ?_
          refine lv_iconst (v := 1) hx hb dXR_write_163 (by decide) ?_
          refine lv_iand hx hb dXR_write_164 ?_
          refine lv_if_ne (tgt := 172) hx hb dXR_write_165 (by decide) (fun hc => ?_) (fun hc => ?_)
          · have h := tc_in hc h
            refine lv_iconst (v := 0) hx hb dXR_write_172 (by decide) ?_
            exact w_XR_write_173 C0 hJ h hP hS (lv_sub hl [] rfl)
          · have h := tc_ip hc h
            refine lv_iconst (v := 1) hx hb dXR_write_168 (by decide) ?_
            refine lv_goto (tgt := 173) hx hb dXR_write_169 (by decide) ?_
            exact w_XR_write_173 C0 hJ h hP hS (lv_sub hl [] rfl)
      · have h := tc_ip hc h
        refine lv_aload_n hx hb dXR_write_129 rfl (lv_at hl 0 rfl) ?_
        refine lv_iload_n hx hb dXR_write_130 rfl (lv_at hl 2 rfl) ?_
        refine lv_bipush (v := 8) hx hb dXR_write_131 (by decide) ?_
        refine lv_ishr hx hb dXR_write_133 ?_
        refine lv_iconst (v := 1) hx hb dXR_write_134 (by decide) ?_
        refine lv_iand hx hb dXR_write_135 ?_
        refine lv_iconst (v := 1) hx hb dXR_write_136 (by decide) ?_
        refine lv_icmp_ne (tgt := 144) hx hb dXR_write_137 (by decide) (fun hc => ?_) (fun hc => ?_)
        · have h := tc_in hc h
          refine lv_iconst (v := 0) hx hb dXR_write_144 (by decide) ?_
          exact w_XR_write_145 C0 hJ h hP hS (lv_sub hl [] rfl)
        · have h := tc_ip hc h
          refine lv_iconst (v := 1) hx hb dXR_write_140 (by decide) ?_
          refine lv_goto (tgt := 145) hx hb dXR_write_141 (by decide) ?_
          exact w_XR_write_145 C0 hJ h hP hS (lv_sub hl [] rfl)
    · have h := tc_ip hc h
      refine lv_aload_n hx hb dXR_write_114 rfl (lv_at hl 0 rfl) ?_
      refine lv_iload_n hx hb dXR_write_115 rfl (lv_at hl 2 rfl) ?_
      obtain ⟨q116, e116, h⟩ := tc_bd_some h
      refine tc_cVv (As := [.int l2]) (rest := []) C0 (k_XR_control hJ e116) tv_XR_97 (by decide) (by decide) hP hS hl 0 rfl rfl (Nat.le_of_ble_eq_true rfl) dXR_write_116 rfl (fun H locs hP hS => ?_)
      refine lv_goto (tgt := 196) hx hb dXR_write_119 (by decide) ?_
      exact w_XR_write_196 C0 hJ h hP hS (lv_sub hl [] rfl)
  · have h := tc_ip hc h
    refine lv_aload_n hx hb dXR_write_99 rfl (lv_at hl 0 rfl) ?_
    refine lv_iload_n hx hb dXR_write_100 rfl (lv_at hl 2 rfl) ?_
    obtain ⟨q101, e101, h⟩ := tc_bd_some h
    refine tc_cVv (As := [.int l2]) (rest := []) C0 (k_XR_writeData hJ e101) tv_XR_93 (by decide) (by decide) hP hS hl 0 rfl rfl (Nat.le_of_ble_eq_true rfl) dXR_write_101 rfl (fun H locs hP hS => ?_)
    refine lv_goto (tgt := 196) hx hb dXR_write_104 (by decide) ?_
    exact w_XR_write_196 C0 hJ h hP hS (lv_sub hl [] rfl)
def m_XR_write_54 (σ : tc_S) (l1 l2 : Int32) : Option (tc_S) := (if l1 < 768 then (m_XR_write_92 σ l1 l2) else (if 896 ≤ l1 then (m_XR_write_92 σ l1 l2) else ((m_XR_isOut σ).bind (fun q69 => (if q69.1 = 0 then (m_XR_write_92 q69.2 l1 l2) else (tc_gd (l1 - 768) 128 (m_XR_write_196 (tc_sa q69.2 1 (l1 - 768) (l2 >>> ((8 : Int32) &&& 31))))))))))
set_option maxHeartbeats 4000000 in
set_option maxRecDepth 100000 in
theorem w_XR_write_54 (C : tc_C p s m args meth c RXR cXR_write 3 none D cA) (hJ : ∀ σ, va_D A (tc_rW ad cA σ)) {q : tc_S} {σ : tc_S} {l1 l2 : Int32} {H : Heap} {locs : List Loc} {ls : Array Slot} (h : m_XR_write_54 σ l1 l2 = some q) (hP : va_P D vwCl (tc_rW ad cA σ) H) (hS : va_S A s.heap H locs) (hl : lv_has ls 3 [(0, .ref (ad 0)), (1, .int l1), (2, .int l2)]) : W p l e (tc_R 3) s m args below meth c H locs 0 0 (MQ below (tc_Qv D (tc_rW ad cA q) A) args s 0 0 A) (F0 m 54 ls []) := by
  have C0 := C
  obtain ⟨hx, hb, hml, hown, ⟨hK, hN⟩, hr, hlk⟩ := C
  unfold m_XR_write_54 at h
  refine lv_iload_n hx hb dXR_write_54 rfl (lv_at hl 1 rfl) ?_
  refine lv_sipush (v := 768) hx hb dXR_write_55 (by decide) ?_
  refine lv_icmp_lt (tgt := 92) hx hb dXR_write_58 (by decide) (fun hc => ?_) (fun hc => ?_)
  · have h := tc_ip hc h
    exact w_XR_write_92 C0 hJ h hP hS (lv_sub hl [0, 1, 2] rfl)
  · have h := tc_in hc h
    refine lv_iload_n hx hb dXR_write_61 rfl (lv_at hl 1 rfl) ?_
    refine lv_sipush (v := 896) hx hb dXR_write_62 (by decide) ?_
    refine lv_icmp_ge (tgt := 92) hx hb dXR_write_65 (by decide) (fun hc => ?_) (fun hc => ?_)
    · have h := tc_ip hc h
      exact w_XR_write_92 C0 hJ h hP hS (lv_sub hl [0, 1, 2] rfl)
    · have h := tc_in hc h
      refine lv_aload_n hx hb dXR_write_68 rfl (lv_at hl 0 rfl) ?_
      obtain ⟨q69, e69, h⟩ := tc_bd_some h
      refine tc_cVi (As := []) (rest := []) C0 (k_XR_isOut hJ e69) tv_XR_47 (by decide) (by decide) hP hS hl 0 rfl rfl (Nat.le_of_ble_eq_true rfl) dXR_write_69 rfl (fun H locs hP hS => ?_)
      refine lv_if_eq (tgt := 92) hx hb dXR_write_72 (by decide) (fun hc => ?_) (fun hc => ?_)
      · have h := tc_ip hc h
        exact w_XR_write_92 C0 hJ h hP hS (lv_sub hl [0, 1, 2] rfl)
      · have h := tc_in hc h
        refine lv_aload_n hx hb dXR_write_75 rfl (lv_at hl 0 rfl) ?_
        refine tc_rr_XR_bytes C0 hP (tc_use hN tw_638) dXR_write_76 ?_
        refine lv_iload_n hx hb dXR_write_79 rfl (lv_at hl 1 rfl) ?_
        refine lv_sipush (v := 768) hx hb dXR_write_80 (by decide) ?_
        refine lv_isub hx hb dXR_write_83 ?_
        refine lv_iload_n hx hb dXR_write_84 rfl (lv_at hl 2 rfl) ?_
        refine lv_bipush (v := 8) hx hb dXR_write_85 (by decide) ?_
        refine lv_ishr hx hb dXR_write_87 ?_
        obtain ⟨hi, h⟩ := tc_gd_some h
        refine tc_rst4 C0 hJ hP hS hi dXR_write_88 (fun H locs hP hS => ?_)
        refine lv_goto (tgt := 196) hx hb dXR_write_89 (by decide) ?_
        exact w_XR_write_196 C0 hJ h hP hS (lv_sub hl [] rfl)
def m_XR_write (σ : tc_S) (l1 l2 : Int32) : Option (tc_S) := (if (l1 - l1 / 2 * 2) = 1 then (some σ) else (if l1 < 512 then (m_XR_write_54 σ l1 l2) else (if 640 ≤ l1 then (m_XR_write_54 σ l1 l2) else (tc_gd (l1 - 512) 128 (tc_gd (l1 - 511) 128 (m_XR_write_196 (tc_sa (tc_sa σ 8 (l1 - 512) (l2 >>> ((8 : Int32) &&& 31))) 8 (l1 - 511) (l2 &&& 255))))))))
set_option maxHeartbeats 4000000 in
set_option maxRecDepth 100000 in
theorem w_XR_write_0 (C : tc_C p s m args meth c RXR cXR_write 3 none D cA) (hJ : ∀ σ, va_D A (tc_rW ad cA σ)) {q : tc_S} {σ : tc_S} {l1 l2 : Int32} {H : Heap} {locs : List Loc} {ls : Array Slot} (h : m_XR_write σ l1 l2 = some q) (hP : va_P D vwCl (tc_rW ad cA σ) H) (hS : va_S A s.heap H locs) (hl : lv_has ls 3 [(0, .ref (ad 0)), (1, .int l1), (2, .int l2)]) : W p l e (tc_R 3) s m args below meth c H locs 0 0 (MQ below (tc_Qv D (tc_rW ad cA q) A) args s 0 0 A) (F0 m 0 ls []) := by
  have C0 := C
  obtain ⟨hx, hb, hml, hown, ⟨hK, hN⟩, hr, hlk⟩ := C
  unfold m_XR_write at h
  refine lv_iload_n hx hb dXR_write_0 rfl (lv_at hl 1 rfl) ?_
  refine lv_iconst (v := 2) hx hb dXR_write_1 (by decide) ?_
  refine lv_irem hx hb dXR_write_2 (by decide) ?_
  refine lv_iconst (v := 1) hx hb dXR_write_3 (by decide) ?_
  refine lv_icmp_ne (tgt := 8) hx hb dXR_write_4 (by decide) (fun hc => ?_) (fun hc => ?_)
  · have h := tc_in hc h
    refine lv_iload_n hx hb dXR_write_8 rfl (lv_at hl 1 rfl) ?_
    refine lv_sipush (v := 512) hx hb dXR_write_9 (by decide) ?_
    refine lv_icmp_lt (tgt := 54) hx hb dXR_write_12 (by decide) (fun hc => ?_) (fun hc => ?_)
    · have h := tc_ip hc h
      exact w_XR_write_54 C0 hJ h hP hS (lv_sub hl [0, 1, 2] rfl)
    · have h := tc_in hc h
      refine lv_iload_n hx hb dXR_write_15 rfl (lv_at hl 1 rfl) ?_
      refine lv_sipush (v := 640) hx hb dXR_write_16 (by decide) ?_
      refine lv_icmp_ge (tgt := 54) hx hb dXR_write_19 (by decide) (fun hc => ?_) (fun hc => ?_)
      · have h := tc_ip hc h
        exact w_XR_write_54 C0 hJ h hP hS (lv_sub hl [0, 1, 2] rfl)
      · have h := tc_in hc h
        refine lv_aload_n hx hb dXR_write_22 rfl (lv_at hl 0 rfl) ?_
        refine tc_rr_XR_ram C0 hP (tc_use hN tw_622) dXR_write_23 ?_
        refine lv_iload_n hx hb dXR_write_26 rfl (lv_at hl 1 rfl) ?_
        refine lv_sipush (v := 512) hx hb dXR_write_27 (by decide) ?_
        refine lv_isub hx hb dXR_write_30 ?_
        refine lv_iload_n hx hb dXR_write_31 rfl (lv_at hl 2 rfl) ?_
        refine lv_bipush (v := 8) hx hb dXR_write_32 (by decide) ?_
        refine lv_ishr hx hb dXR_write_34 ?_
        obtain ⟨hi, h⟩ := tc_gd_some h
        refine tc_rst2 C0 hJ hP hS hi dXR_write_35 (fun H locs hP hS => ?_)
        refine lv_aload_n hx hb dXR_write_36 rfl (lv_at hl 0 rfl) ?_
        refine tc_rr_XR_ram C0 hP (tc_use hN tw_622) dXR_write_37 ?_
        refine lv_iload_n hx hb dXR_write_40 rfl (lv_at hl 1 rfl) ?_
        refine lv_sipush (v := 511) hx hb dXR_write_41 (by decide) ?_
        refine lv_isub hx hb dXR_write_44 ?_
        refine lv_iload_n hx hb dXR_write_45 rfl (lv_at hl 2 rfl) ?_
        refine lv_sipush (v := 255) hx hb dXR_write_46 (by decide) ?_
        refine lv_iand hx hb dXR_write_49 ?_
        obtain ⟨hi, h⟩ := tc_gd_some h
        refine tc_rst2 C0 hJ hP hS hi dXR_write_50 (fun H locs hP hS => ?_)
        refine lv_goto (tgt := 196) hx hb dXR_write_51 (by decide) ?_
        exact w_XR_write_196 C0 hJ h hP hS (lv_sub hl [] rfl)
  · have h := tc_ip hc h
    exact tc_rrv C0 hP hS h dXR_write_7
theorem k_XR_write (hJ : ∀ σ, va_D A (tc_rW ad cA σ)) {σ : tc_S} {l1 l2 : Int32} {q : tc_S} (h : m_XR_write σ l1 l2 = some q) : Met l yXR_write [.code yXR_write cXR_write 3 none] (tc_R 3) (tc_Pc D cA (tc_rW ad cA σ) [.ref (ad 0), .int l1, .int l2]) (tc_Qv D (tc_rW ad cA q) A) 0 0 A :=
  tc_met (by decide) (Nat.le_of_ble_eq_true rfl) (fun _ _ _ _ _ _ _ C hP _ hl => w_XR_write_0 C hJ h hP va_S.rf hl)
def m_XR_testWord_25 (σ : tc_S) (k0 : Int32) : Option (tc_S) := (tc_gb k0 (some (tc_sf (tc_sf (tc_sf σ 4 k0) 5 0) 6 0)))
set_option maxHeartbeats 4000000 in
set_option maxRecDepth 100000 in
theorem w_XR_testWord_25 (C : tc_C p s m args meth c RXR cXR_testWord 2 none D cA) (hJ : ∀ σ, va_D A (tc_rW ad cA σ)) {q : tc_S} {σ : tc_S} {k0 : Int32} {H : Heap} {locs : List Loc} {ls : Array Slot} (h : m_XR_testWord_25 σ k0 = some q) (hP : va_P D vwCl (tc_rW ad cA σ) H) (hS : va_S A s.heap H locs) (hl : lv_has ls 2 [(0, .ref (ad 0))]) : W p l e (tc_R 0) s m args below meth c H locs 0 0 (MQ below (tc_Qv D (tc_rW ad cA q) A) args s 0 0 A) (F0 m 25 ls [.int k0, .ref (ad 0)]) := by
  have C0 := C
  obtain ⟨hx, hb, hml, hown, ⟨hK, hN⟩, hr, hlk⟩ := C
  unfold m_XR_testWord_25 at h
  obtain ⟨hz, h⟩ := tc_gb_some h
  refine tc_rp4 C0 hJ hP hS (tc_use hN tw_628) hz dXR_testWord_25 (fun H locs hP hS => ?_)
  refine lv_aload_n hx hb dXR_testWord_28 rfl (lv_at hl 0 rfl) ?_
  refine lv_iconst (v := 0) hx hb dXR_testWord_29 (by decide) ?_
  refine tc_rp5 C0 hJ hP hS (tc_use hN tw_629) ⟨by decide, by decide⟩ dXR_testWord_30 (fun H locs hP hS => ?_)
  refine lv_aload_n hx hb dXR_testWord_33 rfl (lv_at hl 0 rfl) ?_
  refine lv_iconst (v := 0) hx hb dXR_testWord_34 (by decide) ?_
  refine tc_rp6 C0 hJ hP hS (tc_use hN tw_630) ⟨by decide, by decide⟩ dXR_testWord_35 (fun H locs hP hS => ?_)
  exact tc_rrv C0 hP hS h dXR_testWord_38
def m_XR_testWord_12 (σ : tc_S) (l1 k0 : Int32) : Option (tc_S) := (tc_gb k0 (if l1 = 0 then (m_XR_testWord_25 (tc_sf σ 3 k0) 1) else (m_XR_testWord_25 (tc_sf σ 3 k0) 0)))
set_option maxHeartbeats 4000000 in
set_option maxRecDepth 100000 in
theorem w_XR_testWord_12 (C : tc_C p s m args meth c RXR cXR_testWord 2 none D cA) (hJ : ∀ σ, va_D A (tc_rW ad cA σ)) {q : tc_S} {σ : tc_S} {l1 k0 : Int32} {H : Heap} {locs : List Loc} {ls : Array Slot} (h : m_XR_testWord_12 σ l1 k0 = some q) (hP : va_P D vwCl (tc_rW ad cA σ) H) (hS : va_S A s.heap H locs) (hl : lv_has ls 2 [(0, .ref (ad 0)), (1, .int l1)]) : W p l e (tc_R 0) s m args below meth c H locs 0 0 (MQ below (tc_Qv D (tc_rW ad cA q) A) args s 0 0 A) (F0 m 12 ls [.int k0, .ref (ad 0)]) := by
  have C0 := C
  obtain ⟨hx, hb, hml, hown, ⟨hK, hN⟩, hr, hlk⟩ := C
  unfold m_XR_testWord_12 at h
  obtain ⟨hz, h⟩ := tc_gb_some h
  refine tc_rp3 C0 hJ hP hS (tc_use hN tw_627) hz dXR_testWord_12 (fun H locs hP hS => ?_)
  refine lv_aload_n hx hb dXR_testWord_15 rfl (lv_at hl 0 rfl) ?_
  refine lv_iload_n hx hb dXR_testWord_16 rfl (lv_at hl 1 rfl) ?_
  refine lv_if_ne (tgt := 24) hx hb dXR_testWord_17 (by decide) (fun hc => ?_) (fun hc => ?_)
  · have h := tc_in hc h
    refine lv_iconst (v := 0) hx hb dXR_testWord_24 (by decide) ?_
    exact w_XR_testWord_25 C0 hJ h hP hS (lv_sub hl [0] rfl)
  · have h := tc_ip hc h
    refine lv_iconst (v := 1) hx hb dXR_testWord_20 (by decide) ?_
    refine lv_goto (tgt := 25) hx hb dXR_testWord_21 (by decide) ?_
    exact w_XR_testWord_25 C0 hJ h hP hS (lv_sub hl [0] rfl)
def m_XR_testWord (σ : tc_S) (l1 : Int32) : Option (tc_S) := (if l1 < 32768 then (m_XR_testWord_12 σ l1 0) else (m_XR_testWord_12 σ l1 1))
set_option maxHeartbeats 4000000 in
set_option maxRecDepth 100000 in
theorem w_XR_testWord_0 (C : tc_C p s m args meth c RXR cXR_testWord 2 none D cA) (hJ : ∀ σ, va_D A (tc_rW ad cA σ)) {q : tc_S} {σ : tc_S} {l1 : Int32} {H : Heap} {locs : List Loc} {ls : Array Slot} (h : m_XR_testWord σ l1 = some q) (hP : va_P D vwCl (tc_rW ad cA σ) H) (hS : va_S A s.heap H locs) (hl : lv_has ls 2 [(0, .ref (ad 0)), (1, .int l1)]) : W p l e (tc_R 0) s m args below meth c H locs 0 0 (MQ below (tc_Qv D (tc_rW ad cA q) A) args s 0 0 A) (F0 m 0 ls []) := by
  have C0 := C
  obtain ⟨hx, hb, hml, hown, ⟨hK, hN⟩, hr, hlk⟩ := C
  unfold m_XR_testWord at h
  refine lv_aload_n hx hb dXR_testWord_0 rfl (lv_at hl 0 rfl) ?_
  refine lv_iload_n hx hb dXR_testWord_1 rfl (lv_at hl 1 rfl) ?_
  refine lv_ldc (v := 32768) hx hb hown (tc_use hN tw_876) dXR_testWord_2 ?_
  refine lv_icmp_lt (tgt := 11) hx hb dXR_testWord_4 (by decide) (fun hc => ?_) (fun hc => ?_)
  · have h := tc_ip hc h
    refine lv_iconst (v := 0) hx hb dXR_testWord_11 (by decide) ?_
    exact w_XR_testWord_12 C0 hJ h hP hS (lv_sub hl [0, 1] rfl)
  · have h := tc_in hc h
    refine lv_iconst (v := 1) hx hb dXR_testWord_7 (by decide) ?_
    refine lv_goto (tgt := 12) hx hb dXR_testWord_8 (by decide) ?_
    exact w_XR_testWord_12 C0 hJ h hP hS (lv_sub hl [0, 1] rfl)
theorem k_XR_testWord (hJ : ∀ σ, va_D A (tc_rW ad cA σ)) {σ : tc_S} {l1 : Int32} {q : tc_S} (h : m_XR_testWord σ l1 = some q) : Met l yXR_testWord [.code yXR_testWord cXR_testWord 2 none] (tc_R 0) (tc_Pc D cA (tc_rW ad cA σ) [.ref (ad 0), .int l1]) (tc_Qv D (tc_rW ad cA q) A) 0 0 A :=
  tc_met (by decide) (Nat.le_of_ble_eq_true rfl) (fun _ _ _ _ _ _ _ C hP _ hl => w_XR_testWord_0 C hJ h hP va_S.rf hl)
end WALK_R_09
