section WALK_R_08
variable {p : Program} {l : Launch} {e : Env} {s : State} {m : MethodId} {args : Array Value} {below : List Frame} {meth : Method} {c : Code} {D : va_G} {cA : ClassId} {A : Nat → Prop} {ad : Nat → Nat}
def m_XR_rom_11 (σ : tc_S) : Option (Int32 × tc_S) := (some (0, σ))
set_option maxHeartbeats 4000000 in
set_option maxRecDepth 100000 in
theorem w_XR_rom_11 (C : tc_C p s m args meth c RXR cXR_rom 3 (some .boolean) D cA) (hJ : ∀ σ, va_D A (tc_rW ad cA σ)) {q : Int32 × tc_S} {σ : tc_S} {H : Heap} {locs : List Loc} {ls : Array Slot} (h : m_XR_rom_11 σ = some q) (hP : va_P D vwCl (tc_rW ad cA σ) H) (hS : va_S A s.heap H locs) (hl : lv_has ls 3 []) : W p l e (tc_R 0) s m args below meth c H locs 0 0 (MQ below (tc_Qi D (tc_rW ad cA q.2) A q.1) args s 0 0 A) (F0 m 11 ls []) := by
  have C0 := C
  obtain ⟨hx, hb, hml, hown, ⟨hK, hN⟩, hr, hlk⟩ := C
  unfold m_XR_rom_11 at h
  refine lv_iconst (v := 0) hx hb dXR_rom_11 (by decide) ?_
  exact tc_rrz C0 hP hS ⟨by decide, by decide⟩ h dXR_rom_12
def m_XR_rom (σ : tc_S) (l1 l2 : Int32) : Option (Int32 × tc_S) := (if l1 < 0 then (m_XR_rom_11 σ) else (if l1 ≤ 255 then (tc_gd (2 * l1) 512 (tc_gd ((2 * l1) + 1) 512 (some (1, (tc_sa (tc_sa σ 7 (2 * l1) ((l2 >>> ((8 : Int32) &&& 31)) &&& 255)) 7 ((2 * l1) + 1) (l2 &&& 255)))))) else (m_XR_rom_11 σ)))
set_option maxHeartbeats 4000000 in
set_option maxRecDepth 100000 in
theorem w_XR_rom_0 (C : tc_C p s m args meth c RXR cXR_rom 3 (some .boolean) D cA) (hJ : ∀ σ, va_D A (tc_rW ad cA σ)) {q : Int32 × tc_S} {σ : tc_S} {l1 l2 : Int32} {H : Heap} {locs : List Loc} {ls : Array Slot} (h : m_XR_rom σ l1 l2 = some q) (hP : va_P D vwCl (tc_rW ad cA σ) H) (hS : va_S A s.heap H locs) (hl : lv_has ls 3 [(0, .ref (ad 0)), (1, .int l1), (2, .int l2)]) : W p l e (tc_R 0) s m args below meth c H locs 0 0 (MQ below (tc_Qi D (tc_rW ad cA q.2) A q.1) args s 0 0 A) (F0 m 0 ls []) := by
  have C0 := C
  obtain ⟨hx, hb, hml, hown, ⟨hK, hN⟩, hr, hlk⟩ := C
  unfold m_XR_rom at h
  refine lv_iload_n hx hb dXR_rom_0 rfl (lv_at hl 1 rfl) ?_
  refine lv_if_lt (tgt := 11) hx hb dXR_rom_1 (by decide) (fun hc => ?_) (fun hc => ?_)
  · have h := tc_ip hc h
    exact w_XR_rom_11 C0 hJ h hP hS (lv_sub hl [] rfl)
  · have h := tc_in hc h
    refine lv_iload_n hx hb dXR_rom_4 rfl (lv_at hl 1 rfl) ?_
    refine lv_sipush (v := 255) hx hb dXR_rom_5 (by decide) ?_
    refine lv_icmp_le (tgt := 13) hx hb dXR_rom_8 (by decide) (fun hc => ?_) (fun hc => ?_)
    · have h := tc_ip hc h
      refine lv_aload_n hx hb dXR_rom_13 rfl (lv_at hl 0 rfl) ?_
      refine tc_rr_XR_rom C0 hP (tc_use hN tw_621) dXR_rom_14 ?_
      refine lv_iconst (v := 2) hx hb dXR_rom_17 (by decide) ?_
      refine lv_iload_n hx hb dXR_rom_18 rfl (lv_at hl 1 rfl) ?_
      refine lv_imul hx hb dXR_rom_19 ?_
      refine lv_iload_n hx hb dXR_rom_20 rfl (lv_at hl 2 rfl) ?_
      refine lv_bipush (v := 8) hx hb dXR_rom_21 (by decide) ?_
      refine lv_ishr hx hb dXR_rom_23 ?_
      refine lv_sipush (v := 255) hx hb dXR_rom_24 (by decide) ?_
      refine lv_iand hx hb dXR_rom_27 ?_
      obtain ⟨hi, h⟩ := tc_gd_some h
      refine tc_rst1 C0 hJ hP hS hi dXR_rom_28 (fun H locs hP hS => ?_)
      refine lv_aload_n hx hb dXR_rom_29 rfl (lv_at hl 0 rfl) ?_
      refine tc_rr_XR_rom C0 hP (tc_use hN tw_621) dXR_rom_30 ?_
      refine lv_iconst (v := 2) hx hb dXR_rom_33 (by decide) ?_
      refine lv_iload_n hx hb dXR_rom_34 rfl (lv_at hl 1 rfl) ?_
      refine lv_imul hx hb dXR_rom_35 ?_
      refine lv_iconst (v := 1) hx hb dXR_rom_36 (by decide) ?_
      refine lv_iadd hx hb dXR_rom_37 ?_
      refine lv_iload_n hx hb dXR_rom_38 rfl (lv_at hl 2 rfl) ?_
      refine lv_sipush (v := 255) hx hb dXR_rom_39 (by decide) ?_
      refine lv_iand hx hb dXR_rom_42 ?_
      obtain ⟨hi, h⟩ := tc_gd_some h
      refine tc_rst1 C0 hJ hP hS hi dXR_rom_43 (fun H locs hP hS => ?_)
      refine lv_iconst (v := 1) hx hb dXR_rom_44 (by decide) ?_
      exact tc_rrz C0 hP hS ⟨by decide, by decide⟩ h dXR_rom_45
    · have h := tc_in hc h
      exact w_XR_rom_11 C0 hJ h hP hS (lv_sub hl [] rfl)
theorem k_XR_rom (hJ : ∀ σ, va_D A (tc_rW ad cA σ)) {σ : tc_S} {l1 l2 : Int32} {q : Int32 × tc_S} (h : m_XR_rom σ l1 l2 = some q) : Met l yXR_rom [.code yXR_rom cXR_rom 3 (some .boolean)] (tc_R 0) (tc_Pc D cA (tc_rW ad cA σ) [.ref (ad 0), .int l1, .int l2]) (tc_Qi D (tc_rW ad cA q.2) A q.1) 0 0 A :=
  tc_met (by decide) (Nat.le_of_ble_eq_true rfl) (fun _ _ _ _ _ _ _ C hP _ hl => w_XR_rom_0 C hJ h hP va_S.rf hl)
def m_XR_isOut_19 (σ : tc_S) (k0 : Int32) : Option (Int32 × tc_S) := (tc_gb k0 (some (k0, σ)))
set_option maxHeartbeats 4000000 in
set_option maxRecDepth 100000 in
theorem w_XR_isOut_19 (C : tc_C p s m args meth c RXR cXR_isOut 1 (some .boolean) D cA) (hJ : ∀ σ, va_D A (tc_rW ad cA σ)) {q : Int32 × tc_S} {σ : tc_S} {k0 : Int32} {H : Heap} {locs : List Loc} {ls : Array Slot} (h : m_XR_isOut_19 σ k0 = some q) (hP : va_P D vwCl (tc_rW ad cA σ) H) (hS : va_S A s.heap H locs) (hl : lv_has ls 1 []) : W p l e (tc_R 0) s m args below meth c H locs 0 0 (MQ below (tc_Qi D (tc_rW ad cA q.2) A q.1) args s 0 0 A) (F0 m 19 ls [.int k0]) := by
  have C0 := C
  obtain ⟨hx, hb, hml, hown, ⟨hK, hN⟩, hr, hlk⟩ := C
  unfold m_XR_isOut_19 at h
  obtain ⟨hz, h⟩ := tc_gb_some h
  exact tc_rrz C0 hP hS hz h dXR_isOut_19
def m_XR_isOut_14 (σ : tc_S) : Option (Int32 × tc_S) := (m_XR_isOut_19 σ 1)
set_option maxHeartbeats 4000000 in
set_option maxRecDepth 100000 in
theorem w_XR_isOut_14 (C : tc_C p s m args meth c RXR cXR_isOut 1 (some .boolean) D cA) (hJ : ∀ σ, va_D A (tc_rW ad cA σ)) {q : Int32 × tc_S} {σ : tc_S} {H : Heap} {locs : List Loc} {ls : Array Slot} (h : m_XR_isOut_14 σ = some q) (hP : va_P D vwCl (tc_rW ad cA σ) H) (hS : va_S A s.heap H locs) (hl : lv_has ls 1 []) : W p l e (tc_R 0) s m args below meth c H locs 0 0 (MQ below (tc_Qi D (tc_rW ad cA q.2) A q.1) args s 0 0 A) (F0 m 14 ls []) := by
  have C0 := C
  obtain ⟨hx, hb, hml, hown, ⟨hK, hN⟩, hr, hlk⟩ := C
  unfold m_XR_isOut_14 at h
  refine lv_iconst (v := 1) hx hb dXR_isOut_14 (by decide) ?_
  refine lv_goto (tgt := 19) hx hb dXR_isOut_15 (by decide) ?_
  exact w_XR_isOut_19 C0 hJ h hP hS (lv_sub hl [] rfl)
def m_XR_isOut (σ : tc_S) : Option (Int32 × tc_S) := (if (tc_gf σ 15) = 0 then (if (tc_gf σ 16) = 0 then (m_XR_isOut_19 σ 0) else (m_XR_isOut_14 σ)) else (m_XR_isOut_14 σ))
set_option maxHeartbeats 4000000 in
set_option maxRecDepth 100000 in
theorem w_XR_isOut_0 (C : tc_C p s m args meth c RXR cXR_isOut 1 (some .boolean) D cA) (hJ : ∀ σ, va_D A (tc_rW ad cA σ)) {q : Int32 × tc_S} {σ : tc_S} {H : Heap} {locs : List Loc} {ls : Array Slot} (h : m_XR_isOut σ = some q) (hP : va_P D vwCl (tc_rW ad cA σ) H) (hS : va_S A s.heap H locs) (hl : lv_has ls 1 [(0, .ref (ad 0))]) : W p l e (tc_R 0) s m args below meth c H locs 0 0 (MQ below (tc_Qi D (tc_rW ad cA q.2) A q.1) args s 0 0 A) (F0 m 0 ls []) := by
  have C0 := C
  obtain ⟨hx, hb, hml, hown, ⟨hK, hN⟩, hr, hlk⟩ := C
  unfold m_XR_isOut at h
  refine lv_aload_n hx hb dXR_isOut_0 rfl (lv_at hl 0 rfl) ?_
  refine tc_rg15 C0 hP (tc_use hN tw_646) dXR_isOut_1 ?_
  refine lv_if_ne (tgt := 14) hx hb dXR_isOut_4 (by decide) (fun hc => ?_) (fun hc => ?_)
  · have h := tc_in hc h
    exact w_XR_isOut_14 C0 hJ h hP hS (lv_sub hl [] rfl)
  · have h := tc_ip hc h
    refine lv_aload_n hx hb dXR_isOut_7 rfl (lv_at hl 0 rfl) ?_
    refine tc_rg16 C0 hP (tc_use hN tw_647) dXR_isOut_8 ?_
    refine lv_if_eq (tgt := 18) hx hb dXR_isOut_11 (by decide) (fun hc => ?_) (fun hc => ?_)
    · have h := tc_ip hc h
      refine lv_iconst (v := 0) hx hb dXR_isOut_18 (by decide) ?_
      exact w_XR_isOut_19 C0 hJ h hP hS (lv_sub hl [] rfl)
    · have h := tc_in hc h
      exact w_XR_isOut_14 C0 hJ h hP hS (lv_sub hl [] rfl)
theorem k_XR_isOut (hJ : ∀ σ, va_D A (tc_rW ad cA σ)) {σ : tc_S} {q : Int32 × tc_S} (h : m_XR_isOut σ = some q) : Met l yXR_isOut [.code yXR_isOut cXR_isOut 1 (some .boolean)] (tc_R 0) (tc_Pc D cA (tc_rW ad cA σ) [.ref (ad 0)]) (tc_Qi D (tc_rW ad cA q.2) A q.1) 0 0 A :=
  tc_met (by decide) (Nat.le_of_ble_eq_true rfl) (fun _ _ _ _ _ _ _ C hP _ hl => w_XR_isOut_0 C hJ h hP va_S.rf hl)
def m_XR_quiet_18 (σ : tc_S) : Option (Int32 × tc_S) := (some (0, σ))
set_option maxHeartbeats 4000000 in
set_option maxRecDepth 100000 in
theorem w_XR_quiet_18 (C : tc_C p s m args meth c RXR cXR_quiet 2 (some .int) D cA) (hJ : ∀ σ, va_D A (tc_rW ad cA σ)) {q : Int32 × tc_S} {σ : tc_S} {H : Heap} {locs : List Loc} {ls : Array Slot} (h : m_XR_quiet_18 σ = some q) (hP : va_P D vwCl (tc_rW ad cA σ) H) (hS : va_S A s.heap H locs) (hl : lv_has ls 2 []) : W p l e (tc_R 1) s m args below meth c H locs 0 0 (MQ below (tc_Qi D (tc_rW ad cA q.2) A q.1) args s 0 0 A) (F0 m 18 ls []) := by
  have C0 := C
  obtain ⟨hx, hb, hml, hown, ⟨hK, hN⟩, hr, hlk⟩ := C
  unfold m_XR_quiet_18 at h
  refine lv_iconst (v := 0) hx hb dXR_quiet_18 (by decide) ?_
  exact tc_rri C0 hP hS h dXR_quiet_19
def m_XR_quiet_112 (σ : tc_S) (k0 : Int32) : Option (Int32 × tc_S) := (some (k0, σ))
set_option maxHeartbeats 4000000 in
set_option maxRecDepth 100000 in
theorem w_XR_quiet_112 (C : tc_C p s m args meth c RXR cXR_quiet 2 (some .int) D cA) (hJ : ∀ σ, va_D A (tc_rW ad cA σ)) {q : Int32 × tc_S} {σ : tc_S} {k0 : Int32} {H : Heap} {locs : List Loc} {ls : Array Slot} (h : m_XR_quiet_112 σ k0 = some q) (hP : va_P D vwCl (tc_rW ad cA σ) H) (hS : va_S A s.heap H locs) (hl : lv_has ls 2 []) : W p l e (tc_R 1) s m args below meth c H locs 0 0 (MQ below (tc_Qi D (tc_rW ad cA q.2) A q.1) args s 0 0 A) (F0 m 112 ls [.int k0]) := by
  have C0 := C
  obtain ⟨hx, hb, hml, hown, ⟨hK, hN⟩, hr, hlk⟩ := C
  unfold m_XR_quiet_112 at h
  exact tc_rri C0 hP hS h dXR_quiet_112
def m_XR_quiet_94 (σ : tc_S) : Option (Int32 × tc_S) := (m_XR_quiet_112 σ 0)
set_option maxHeartbeats 4000000 in
set_option maxRecDepth 100000 in
theorem w_XR_quiet_94 (C : tc_C p s m args meth c RXR cXR_quiet 2 (some .int) D cA) (hJ : ∀ σ, va_D A (tc_rW ad cA σ)) {q : Int32 × tc_S} {σ : tc_S} {H : Heap} {locs : List Loc} {ls : Array Slot} (h : m_XR_quiet_94 σ = some q) (hP : va_P D vwCl (tc_rW ad cA σ) H) (hS : va_S A s.heap H locs) (hl : lv_has ls 2 []) : W p l e (tc_R 1) s m args below meth c H locs 0 0 (MQ below (tc_Qi D (tc_rW ad cA q.2) A q.1) args s 0 0 A) (F0 m 94 ls []) := by
  have C0 := C
  obtain ⟨hx, hb, hml, hown, ⟨hK, hN⟩, hr, hlk⟩ := C
  unfold m_XR_quiet_94 at h
  refine lv_iconst (v := 0) hx hb dXR_quiet_94 (by decide) ?_
  refine lv_goto (tgt := 112) hx hb dXR_quiet_95 (by decide) ?_
  exact w_XR_quiet_112 C0 hJ h hP hS (lv_sub hl [] rfl)
def m_XR_quiet (σ : tc_S) (l1 : Int32) : Option (Int32 × tc_S) := (if l1 < 0 then (m_XR_quiet_18 σ) else (if 895 < l1 then (m_XR_quiet_18 σ) else (if (l1 - l1 / 2 * 2) = 1 then (m_XR_quiet_18 σ) else (if 512 ≤ l1 then (if 640 ≤ l1 then (if l1 < 768 then (m_XR_quiet_94 σ) else ((m_XR_isOut σ).bind (fun q88 => (if q88.1 = 0 then (m_XR_quiet_94 q88.2) else (tc_gd (l1 - 768) 128 (m_XR_quiet_112 q88.2 (257 * (tc_ga q88.2 1 (l1 - 768))))))))) else (tc_gd (l1 - 512) 128 (tc_gd (l1 - 511) 128 (some (((256 * (tc_ga σ 8 (l1 - 512))) + (tc_ga σ 8 (l1 - 511))), σ))))) else (tc_gd l1 512 (tc_gd (l1 + 1) 512 (some (((256 * (tc_ga σ 7 l1)) + (tc_ga σ 7 (l1 + 1))), σ))))))))
set_option maxHeartbeats 4000000 in
set_option maxRecDepth 100000 in
theorem w_XR_quiet_0 (C : tc_C p s m args meth c RXR cXR_quiet 2 (some .int) D cA) (hJ : ∀ σ, va_D A (tc_rW ad cA σ)) {q : Int32 × tc_S} {σ : tc_S} {l1 : Int32} {H : Heap} {locs : List Loc} {ls : Array Slot} (h : m_XR_quiet σ l1 = some q) (hP : va_P D vwCl (tc_rW ad cA σ) H) (hS : va_S A s.heap H locs) (hl : lv_has ls 2 [(0, .ref (ad 0)), (1, .int l1)]) : W p l e (tc_R 1) s m args below meth c H locs 0 0 (MQ below (tc_Qi D (tc_rW ad cA q.2) A q.1) args s 0 0 A) (F0 m 0 ls []) := by
  have C0 := C
  obtain ⟨hx, hb, hml, hown, ⟨hK, hN⟩, hr, hlk⟩ := C
  unfold m_XR_quiet at h
  refine lv_iload_n hx hb dXR_quiet_0 rfl (lv_at hl 1 rfl) ?_
  refine lv_if_lt (tgt := 18) hx hb dXR_quiet_1 (by decide) (fun hc => ?_) (fun hc => ?_)
  · have h := tc_ip hc h
    exact w_XR_quiet_18 C0 hJ h hP hS (lv_sub hl [] rfl)
  · have h := tc_in hc h
    refine lv_iload_n hx hb dXR_quiet_4 rfl (lv_at hl 1 rfl) ?_
    refine lv_sipush (v := 895) hx hb dXR_quiet_5 (by decide) ?_
    refine lv_icmp_gt (tgt := 18) hx hb dXR_quiet_8 (by decide) (fun hc => ?_) (fun hc => ?_)
    · have h := tc_ip hc h
      exact w_XR_quiet_18 C0 hJ h hP hS (lv_sub hl [] rfl)
    · have h := tc_in hc h
      refine lv_iload_n hx hb dXR_quiet_11 rfl (lv_at hl 1 rfl) ?_
      refine lv_iconst (v := 2) hx hb dXR_quiet_12 (by decide) ?_
      refine lv_irem hx hb dXR_quiet_13 (by decide) ?_
      refine lv_iconst (v := 1) hx hb dXR_quiet_14 (by decide) ?_
      refine lv_icmp_ne (tgt := 20) hx hb dXR_quiet_15 (by decide) (fun hc => ?_) (fun hc => ?_)
      · have h := tc_in hc h
        refine lv_iload_n hx hb dXR_quiet_20 rfl (lv_at hl 1 rfl) ?_
        refine lv_sipush (v := 512) hx hb dXR_quiet_21 (by decide) ?_
        refine lv_icmp_ge (tgt := 47) hx hb dXR_quiet_24 (by decide) (fun hc => ?_) (fun hc => ?_)
        · have h := tc_ip hc h
          refine lv_iload_n hx hb dXR_quiet_47 rfl (lv_at hl 1 rfl) ?_
          refine lv_sipush (v := 640) hx hb dXR_quiet_48 (by decide) ?_
          refine lv_icmp_ge (tgt := 80) hx hb dXR_quiet_51 (by decide) (fun hc => ?_) (fun hc => ?_)
          · have h := tc_ip hc h
            refine lv_iload_n hx hb dXR_quiet_80 rfl (lv_at hl 1 rfl) ?_
            refine lv_sipush (v := 768) hx hb dXR_quiet_81 (by decide) ?_
            refine lv_icmp_lt (tgt := 94) hx hb dXR_quiet_84 (by decide) (fun hc => ?_) (fun hc => ?_)
            · have h := tc_ip hc h
              exact w_XR_quiet_94 C0 hJ h hP hS (lv_sub hl [] rfl)
            · have h := tc_in hc h
              refine lv_aload_n hx hb dXR_quiet_87 rfl (lv_at hl 0 rfl) ?_
              obtain ⟨q88, e88, h⟩ := tc_bd_some h
              refine tc_cVi (As := []) (rest := []) C0 (k_XR_isOut hJ e88) tv_XR_47 (by decide) (by decide) hP hS hl 0 rfl rfl (Nat.le_of_ble_eq_true rfl) dXR_quiet_88 rfl (fun H locs hP hS => ?_)
              refine lv_if_ne (tgt := 98) hx hb dXR_quiet_91 (by decide) (fun hc => ?_) (fun hc => ?_)
              · have h := tc_in hc h
                refine lv_sipush (v := 257) hx hb dXR_quiet_98 (by decide) ?_
                refine lv_aload_n hx hb dXR_quiet_101 rfl (lv_at hl 0 rfl) ?_
                refine tc_rr_XR_bytes C0 hP (tc_use hN tw_638) dXR_quiet_102 ?_
                refine lv_iload_n hx hb dXR_quiet_105 rfl (lv_at hl 1 rfl) ?_
                refine lv_sipush (v := 768) hx hb dXR_quiet_106 (by decide) ?_
                refine lv_isub hx hb dXR_quiet_109 ?_
                obtain ⟨hi, h⟩ := tc_gd_some h
                refine tc_rld4 C0 hP hi dXR_quiet_110 ?_
                refine lv_imul hx hb dXR_quiet_111 ?_
                exact w_XR_quiet_112 C0 hJ h hP hS (lv_sub hl [] rfl)
              · have h := tc_ip hc h
                exact w_XR_quiet_94 C0 hJ h hP hS (lv_sub hl [] rfl)
          · have h := tc_in hc h
            refine lv_sipush (v := 256) hx hb dXR_quiet_54 (by decide) ?_
            refine lv_aload_n hx hb dXR_quiet_57 rfl (lv_at hl 0 rfl) ?_
            refine tc_rr_XR_ram C0 hP (tc_use hN tw_622) dXR_quiet_58 ?_
            refine lv_iload_n hx hb dXR_quiet_61 rfl (lv_at hl 1 rfl) ?_
            refine lv_sipush (v := 512) hx hb dXR_quiet_62 (by decide) ?_
            refine lv_isub hx hb dXR_quiet_65 ?_
            obtain ⟨hi, h⟩ := tc_gd_some h
            refine tc_rld2 C0 hP hi dXR_quiet_66 ?_
            refine lv_imul hx hb dXR_quiet_67 ?_
            refine lv_aload_n hx hb dXR_quiet_68 rfl (lv_at hl 0 rfl) ?_
            refine tc_rr_XR_ram C0 hP (tc_use hN tw_622) dXR_quiet_69 ?_
            refine lv_iload_n hx hb dXR_quiet_72 rfl (lv_at hl 1 rfl) ?_
            refine lv_sipush (v := 511) hx hb dXR_quiet_73 (by decide) ?_
            refine lv_isub hx hb dXR_quiet_76 ?_
            obtain ⟨hi, h⟩ := tc_gd_some h
            refine tc_rld2 C0 hP hi dXR_quiet_77 ?_
            refine lv_iadd hx hb dXR_quiet_78 ?_
            exact tc_rri C0 hP hS h dXR_quiet_79
        · have h := tc_in hc h
          refine lv_sipush (v := 256) hx hb dXR_quiet_27 (by decide) ?_
          refine lv_aload_n hx hb dXR_quiet_30 rfl (lv_at hl 0 rfl) ?_
          refine tc_rr_XR_rom C0 hP (tc_use hN tw_621) dXR_quiet_31 ?_
          refine lv_iload_n hx hb dXR_quiet_34 rfl (lv_at hl 1 rfl) ?_
          obtain ⟨hi, h⟩ := tc_gd_some h
          refine tc_rld1 C0 hP hi dXR_quiet_35 ?_
          refine lv_imul hx hb dXR_quiet_36 ?_
          refine lv_aload_n hx hb dXR_quiet_37 rfl (lv_at hl 0 rfl) ?_
          refine tc_rr_XR_rom C0 hP (tc_use hN tw_621) dXR_quiet_38 ?_
          refine lv_iload_n hx hb dXR_quiet_41 rfl (lv_at hl 1 rfl) ?_
          refine lv_iconst (v := 1) hx hb dXR_quiet_42 (by decide) ?_
          refine lv_iadd hx hb dXR_quiet_43 ?_
          obtain ⟨hi, h⟩ := tc_gd_some h
          refine tc_rld1 C0 hP hi dXR_quiet_44 ?_
          refine lv_iadd hx hb dXR_quiet_45 ?_
          exact tc_rri C0 hP hS h dXR_quiet_46
      · have h := tc_ip hc h
        exact w_XR_quiet_18 C0 hJ h hP hS (lv_sub hl [] rfl)
theorem k_XR_quiet (hJ : ∀ σ, va_D A (tc_rW ad cA σ)) {σ : tc_S} {l1 : Int32} {q : Int32 × tc_S} (h : m_XR_quiet σ l1 = some q) : Met l yXR_quiet [.code yXR_quiet cXR_quiet 2 (some .int)] (tc_R 1) (tc_Pc D cA (tc_rW ad cA σ) [.ref (ad 0), .int l1]) (tc_Qi D (tc_rW ad cA q.2) A q.1) 0 0 A :=
  tc_met (by decide) (Nat.le_of_ble_eq_true rfl) (fun _ _ _ _ _ _ _ C hP _ hl => w_XR_quiet_0 C hJ h hP va_S.rf hl)
def m_XR_setFlagWord_69 (σ : tc_S) (k0 : Int32) : Option (tc_S) := (tc_gb k0 (some (tc_sf σ 6 k0)))
set_option maxHeartbeats 4000000 in
set_option maxRecDepth 100000 in
theorem w_XR_setFlagWord_69 (C : tc_C p s m args meth c RXR cXR_setFlagWord 2 none D cA) (hJ : ∀ σ, va_D A (tc_rW ad cA σ)) {q : tc_S} {σ : tc_S} {k0 : Int32} {H : Heap} {locs : List Loc} {ls : Array Slot} (h : m_XR_setFlagWord_69 σ k0 = some q) (hP : va_P D vwCl (tc_rW ad cA σ) H) (hS : va_S A s.heap H locs) (hl : lv_has ls 2 []) : W p l e (tc_R 0) s m args below meth c H locs 0 0 (MQ below (tc_Qv D (tc_rW ad cA q) A) args s 0 0 A) (F0 m 69 ls [.int k0, .ref (ad 0)]) := by
  have C0 := C
  obtain ⟨hx, hb, hml, hown, ⟨hK, hN⟩, hr, hlk⟩ := C
  unfold m_XR_setFlagWord_69 at h
  obtain ⟨hz, h⟩ := tc_gb_some h
  refine tc_rp6 C0 hJ hP hS (tc_use hN tw_630) hz dXR_setFlagWord_69 (fun H locs hP hS => ?_)
  exact tc_rrv C0 hP hS h dXR_setFlagWord_72
def m_XR_setFlagWord_54 (σ : tc_S) (l1 k0 : Int32) : Option (tc_S) := (tc_gb k0 (if (l1 &&& 1) = 0 then (m_XR_setFlagWord_69 (tc_sf σ 5 k0) 0) else (m_XR_setFlagWord_69 (tc_sf σ 5 k0) 1)))
set_option maxHeartbeats 4000000 in
set_option maxRecDepth 100000 in
theorem w_XR_setFlagWord_54 (C : tc_C p s m args meth c RXR cXR_setFlagWord 2 none D cA) (hJ : ∀ σ, va_D A (tc_rW ad cA σ)) {q : tc_S} {σ : tc_S} {l1 k0 : Int32} {H : Heap} {locs : List Loc} {ls : Array Slot} (h : m_XR_setFlagWord_54 σ l1 k0 = some q) (hP : va_P D vwCl (tc_rW ad cA σ) H) (hS : va_S A s.heap H locs) (hl : lv_has ls 2 [(0, .ref (ad 0)), (1, .int l1)]) : W p l e (tc_R 0) s m args below meth c H locs 0 0 (MQ below (tc_Qv D (tc_rW ad cA q) A) args s 0 0 A) (F0 m 54 ls [.int k0, .ref (ad 0)]) := by
  have C0 := C
  obtain ⟨hx, hb, hml, hown, ⟨hK, hN⟩, hr, hlk⟩ := C
  unfold m_XR_setFlagWord_54 at h
  obtain ⟨hz, h⟩ := tc_gb_some h
  refine tc_rp5 C0 hJ hP hS (tc_use hN tw_629) hz dXR_setFlagWord_54 (fun H locs hP hS => ?_)
  refine lv_aload_n hx hb dXR_setFlagWord_57 rfl (lv_at hl 0 rfl) ?_
  refine lv_iload_n hx hb dXR_setFlagWord_58 rfl (lv_at hl 1 rfl) ?_
  refine lv_iconst (v := 1) hx hb dXR_setFlagWord_59 (by decide) ?_
  refine lv_iand hx hb dXR_setFlagWord_60 ?_
  refine lv_if_eq (tgt := 68) hx hb dXR_setFlagWord_61 (by decide) (fun hc => ?_) (fun hc => ?_)
  · have h := tc_ip hc h
    refine lv_iconst (v := 0) hx hb dXR_setFlagWord_68 (by decide) ?_
    exact w_XR_setFlagWord_69 C0 hJ h hP hS (lv_sub hl [] rfl)
  · have h := tc_in hc h
    refine lv_iconst (v := 1) hx hb dXR_setFlagWord_64 (by decide) ?_
    refine lv_goto (tgt := 69) hx hb dXR_setFlagWord_65 (by decide) ?_
    exact w_XR_setFlagWord_69 C0 hJ h hP hS (lv_sub hl [] rfl)
def m_XR_setFlagWord_39 (σ : tc_S) (l1 k0 : Int32) : Option (tc_S) := (tc_gb k0 (if (l1 &&& 2) = 0 then (m_XR_setFlagWord_54 (tc_sf σ 4 k0) l1 0) else (m_XR_setFlagWord_54 (tc_sf σ 4 k0) l1 1)))
set_option maxHeartbeats 4000000 in
set_option maxRecDepth 100000 in
theorem w_XR_setFlagWord_39 (C : tc_C p s m args meth c RXR cXR_setFlagWord 2 none D cA) (hJ : ∀ σ, va_D A (tc_rW ad cA σ)) {q : tc_S} {σ : tc_S} {l1 k0 : Int32} {H : Heap} {locs : List Loc} {ls : Array Slot} (h : m_XR_setFlagWord_39 σ l1 k0 = some q) (hP : va_P D vwCl (tc_rW ad cA σ) H) (hS : va_S A s.heap H locs) (hl : lv_has ls 2 [(0, .ref (ad 0)), (1, .int l1)]) : W p l e (tc_R 0) s m args below meth c H locs 0 0 (MQ below (tc_Qv D (tc_rW ad cA q) A) args s 0 0 A) (F0 m 39 ls [.int k0, .ref (ad 0)]) := by
  have C0 := C
  obtain ⟨hx, hb, hml, hown, ⟨hK, hN⟩, hr, hlk⟩ := C
  unfold m_XR_setFlagWord_39 at h
  obtain ⟨hz, h⟩ := tc_gb_some h
  refine tc_rp4 C0 hJ hP hS (tc_use hN tw_628) hz dXR_setFlagWord_39 (fun H locs hP hS => ?_)
  refine lv_aload_n hx hb dXR_setFlagWord_42 rfl (lv_at hl 0 rfl) ?_
  refine lv_iload_n hx hb dXR_setFlagWord_43 rfl (lv_at hl 1 rfl) ?_
  refine lv_iconst (v := 2) hx hb dXR_setFlagWord_44 (by decide) ?_
  refine lv_iand hx hb dXR_setFlagWord_45 ?_
  refine lv_if_eq (tgt := 53) hx hb dXR_setFlagWord_46 (by decide) (fun hc => ?_) (fun hc => ?_)
  · have h := tc_ip hc h
    refine lv_iconst (v := 0) hx hb dXR_setFlagWord_53 (by decide) ?_
    exact w_XR_setFlagWord_54 C0 hJ h hP hS (lv_sub hl [0, 1] rfl)
  · have h := tc_in hc h
    refine lv_iconst (v := 1) hx hb dXR_setFlagWord_49 (by decide) ?_
    refine lv_goto (tgt := 54) hx hb dXR_setFlagWord_50 (by decide) ?_
    exact w_XR_setFlagWord_54 C0 hJ h hP hS (lv_sub hl [0, 1] rfl)
def m_XR_setFlagWord_24 (σ : tc_S) (l1 k0 : Int32) : Option (tc_S) := (tc_gb k0 (if (l1 &&& 4) = 0 then (m_XR_setFlagWord_39 (tc_sf σ 3 k0) l1 0) else (m_XR_setFlagWord_39 (tc_sf σ 3 k0) l1 1)))
set_option maxHeartbeats 4000000 in
set_option maxRecDepth 100000 in
theorem w_XR_setFlagWord_24 (C : tc_C p s m args meth c RXR cXR_setFlagWord 2 none D cA) (hJ : ∀ σ, va_D A (tc_rW ad cA σ)) {q : tc_S} {σ : tc_S} {l1 k0 : Int32} {H : Heap} {locs : List Loc} {ls : Array Slot} (h : m_XR_setFlagWord_24 σ l1 k0 = some q) (hP : va_P D vwCl (tc_rW ad cA σ) H) (hS : va_S A s.heap H locs) (hl : lv_has ls 2 [(0, .ref (ad 0)), (1, .int l1)]) : W p l e (tc_R 0) s m args below meth c H locs 0 0 (MQ below (tc_Qv D (tc_rW ad cA q) A) args s 0 0 A) (F0 m 24 ls [.int k0, .ref (ad 0)]) := by
  have C0 := C
  obtain ⟨hx, hb, hml, hown, ⟨hK, hN⟩, hr, hlk⟩ := C
  unfold m_XR_setFlagWord_24 at h
  obtain ⟨hz, h⟩ := tc_gb_some h
  refine tc_rp3 C0 hJ hP hS (tc_use hN tw_627) hz dXR_setFlagWord_24 (fun H locs hP hS => ?_)
  refine lv_aload_n hx hb dXR_setFlagWord_27 rfl (lv_at hl 0 rfl) ?_
  refine lv_iload_n hx hb dXR_setFlagWord_28 rfl (lv_at hl 1 rfl) ?_
  refine lv_iconst (v := 4) hx hb dXR_setFlagWord_29 (by decide) ?_
  refine lv_iand hx hb dXR_setFlagWord_30 ?_
  refine lv_if_eq (tgt := 38) hx hb dXR_setFlagWord_31 (by decide) (fun hc => ?_) (fun hc => ?_)
  · have h := tc_ip hc h
    refine lv_iconst (v := 0) hx hb dXR_setFlagWord_38 (by decide) ?_
    exact w_XR_setFlagWord_39 C0 hJ h hP hS (lv_sub hl [0, 1] rfl)
  · have h := tc_in hc h
    refine lv_iconst (v := 1) hx hb dXR_setFlagWord_34 (by decide) ?_
    refine lv_goto (tgt := 39) hx hb dXR_setFlagWord_35 (by decide) ?_
    exact w_XR_setFlagWord_39 C0 hJ h hP hS (lv_sub hl [0, 1] rfl)
def m_XR_setFlagWord (σ : tc_S) (l1 : Int32) : Option (tc_S) := (if (l1 &&& 8) = 0 then (m_XR_setFlagWord_24 (tc_sf σ 2 ((l1 >>> ((8 : Int32) &&& 31)) &&& 7)) l1 0) else (m_XR_setFlagWord_24 (tc_sf σ 2 ((l1 >>> ((8 : Int32) &&& 31)) &&& 7)) l1 1))
set_option maxHeartbeats 4000000 in
set_option maxRecDepth 100000 in
theorem w_XR_setFlagWord_0 (C : tc_C p s m args meth c RXR cXR_setFlagWord 2 none D cA) (hJ : ∀ σ, va_D A (tc_rW ad cA σ)) {q : tc_S} {σ : tc_S} {l1 : Int32} {H : Heap} {locs : List Loc} {ls : Array Slot} (h : m_XR_setFlagWord σ l1 = some q) (hP : va_P D vwCl (tc_rW ad cA σ) H) (hS : va_S A s.heap H locs) (hl : lv_has ls 2 [(0, .ref (ad 0)), (1, .int l1)]) : W p l e (tc_R 0) s m args below meth c H locs 0 0 (MQ below (tc_Qv D (tc_rW ad cA q) A) args s 0 0 A) (F0 m 0 ls []) := by
  have C0 := C
  obtain ⟨hx, hb, hml, hown, ⟨hK, hN⟩, hr, hlk⟩ := C
  unfold m_XR_setFlagWord at h
  refine lv_aload_n hx hb dXR_setFlagWord_0 rfl (lv_at hl 0 rfl) ?_
  refine lv_iload_n hx hb dXR_setFlagWord_1 rfl (lv_at hl 1 rfl) ?_
  refine lv_bipush (v := 8) hx hb dXR_setFlagWord_2 (by decide) ?_
  refine lv_ishr hx hb dXR_setFlagWord_4 ?_
  refine lv_bipush (v := 7) hx hb dXR_setFlagWord_5 (by decide) ?_
  refine lv_iand hx hb dXR_setFlagWord_7 ?_
  refine tc_rp2 C0 hJ hP hS (tc_use hN tw_626) dXR_setFlagWord_8 (fun H locs hP hS => ?_)
  refine lv_aload_n hx hb dXR_setFlagWord_11 rfl (lv_at hl 0 rfl) ?_
  refine lv_iload_n hx hb dXR_setFlagWord_12 rfl (lv_at hl 1 rfl) ?_
  refine lv_bipush (v := 8) hx hb dXR_setFlagWord_13 (by decide) ?_
  refine lv_iand hx hb dXR_setFlagWord_15 ?_
  refine lv_if_eq (tgt := 23) hx hb dXR_setFlagWord_16 (by decide) (fun hc => ?_) (fun hc => ?_)
  · have h := tc_ip hc h
    refine lv_iconst (v := 0) hx hb dXR_setFlagWord_23 (by decide) ?_
    exact w_XR_setFlagWord_24 C0 hJ h hP hS (lv_sub hl [0, 1] rfl)
  · have h := tc_in hc h
    refine lv_iconst (v := 1) hx hb dXR_setFlagWord_19 (by decide) ?_
    refine lv_goto (tgt := 24) hx hb dXR_setFlagWord_20 (by decide) ?_
    exact w_XR_setFlagWord_24 C0 hJ h hP hS (lv_sub hl [0, 1] rfl)
theorem k_XR_setFlagWord (hJ : ∀ σ, va_D A (tc_rW ad cA σ)) {σ : tc_S} {l1 : Int32} {q : tc_S} (h : m_XR_setFlagWord σ l1 = some q) : Met l yXR_setFlagWord [.code yXR_setFlagWord cXR_setFlagWord 2 none] (tc_R 0) (tc_Pc D cA (tc_rW ad cA σ) [.ref (ad 0), .int l1]) (tc_Qv D (tc_rW ad cA q) A) 0 0 A :=
  tc_met (by decide) (Nat.le_of_ble_eq_true rfl) (fun _ _ _ _ _ _ _ C hP _ hl => w_XR_setFlagWord_0 C hJ h hP va_S.rf hl)
def m_XR_reset_2 : Nat → tc_S → Int32 → Option (tc_S)
  | 0, _, _ => none
  | n + 1, σ, l1 => (if 8 ≤ l1 then ((m_XR_quiet σ 2).bind (fun q24 => ((m_XR_quiet (tc_sf q24.2 0 q24.1) 6).bind (fun q34 => ((m_XR_setFlagWord (tc_sf q34.2 1 q34.1) 1792).bind (fun q44 => (some (tc_sf q44 7 0)))))))) else (tc_gd l1 8 (m_XR_reset_2 n (tc_sa σ 0 l1 0) (l1 + 1))))
set_option maxHeartbeats 4000000 in
set_option maxRecDepth 100000 in
theorem w_XR_reset_2 (C : tc_C p s m args meth c RXR cXR_reset 2 none D cA) (hJ : ∀ σ, va_D A (tc_rW ad cA σ)) {q : tc_S} : ∀ (n : Nat) {σ : tc_S} {l1 : Int32} {H : Heap} {locs : List Loc} {ls : Array Slot} (h : m_XR_reset_2 n σ l1 = some q) (hP : va_P D vwCl (tc_rW ad cA σ) H) (hS : va_S A s.heap H locs) (hl : lv_has ls 2 [(0, .ref (ad 0)), (1, .int l1)]), W p l e (tc_R 2) s m args below meth c H locs 0 0 (MQ below (tc_Qv D (tc_rW ad cA q) A) args s 0 0 A) (F0 m 2 ls []) := by
  have C0 := C
  obtain ⟨hx, hb, hml, hown, ⟨hK, hN⟩, hr, hlk⟩ := C
  intro n
  induction n with
  | zero =>
    intro σ l1 H locs ls h hP hS hl
    exact absurd h (by simp [m_XR_reset_2])
  | succ n ih =>
    intro σ l1 H locs ls h hP hS hl
    unfold m_XR_reset_2 at h
    refine lv_iload_n hx hb dXR_reset_2 rfl (lv_at hl 1 rfl) ?_
    refine lv_bipush (v := 8) hx hb dXR_reset_3 (by decide) ?_
    refine lv_icmp_ge (tgt := 21) hx hb dXR_reset_5 (by decide) (fun hc => ?_) (fun hc => ?_)
    · have h := tc_ip hc h
      refine lv_aload_n hx hb dXR_reset_21 rfl (lv_at hl 0 rfl) ?_
      refine lv_aload_n hx hb dXR_reset_22 rfl (lv_at hl 0 rfl) ?_
      refine lv_iconst (v := 2) hx hb dXR_reset_23 (by decide) ?_
      obtain ⟨q24, e24, h⟩ := tc_bd_some h
      refine tc_cVi (As := [.int 2]) (rest := [.ref (ad 0)]) C0 (k_XR_quiet hJ e24) tv_XR_76 (by decide) (by decide) hP hS hl 0 rfl rfl (Nat.le_of_ble_eq_true rfl) dXR_reset_24 rfl (fun H locs hP hS => ?_)
      refine tc_rp0 C0 hJ hP hS (tc_use hN tw_624) dXR_reset_27 (fun H locs hP hS => ?_)
      refine lv_aload_n hx hb dXR_reset_30 rfl (lv_at hl 0 rfl) ?_
      refine lv_aload_n hx hb dXR_reset_31 rfl (lv_at hl 0 rfl) ?_
      refine lv_bipush (v := 6) hx hb dXR_reset_32 (by decide) ?_
      obtain ⟨q34, e34, h⟩ := tc_bd_some h
      refine tc_cVi (As := [.int 6]) (rest := [.ref (ad 0)]) C0 (k_XR_quiet hJ e34) tv_XR_76 (by decide) (by decide) hP hS hl 0 rfl rfl (Nat.le_of_ble_eq_true rfl) dXR_reset_34 rfl (fun H locs hP hS => ?_)
      refine tc_rp1 C0 hJ hP hS (tc_use hN tw_625) dXR_reset_37 (fun H locs hP hS => ?_)
      refine lv_aload_n hx hb dXR_reset_40 rfl (lv_at hl 0 rfl) ?_
      refine lv_sipush (v := 1792) hx hb dXR_reset_41 (by decide) ?_
      obtain ⟨q44, e44, h⟩ := tc_bd_some h
      refine tc_cVv (As := [.int 1792]) (rest := []) C0 (k_XR_setFlagWord hJ e44) tv_XR_217 (by decide) (by decide) hP hS hl 0 rfl rfl (Nat.le_of_ble_eq_true rfl) dXR_reset_44 rfl (fun H locs hP hS => ?_)
      refine lv_aload_n hx hb dXR_reset_47 rfl (lv_at hl 0 rfl) ?_
      refine lv_iconst (v := 0) hx hb dXR_reset_48 (by decide) ?_
      refine tc_rp7 C0 hJ hP hS (tc_use hN tw_631) ⟨by decide, by decide⟩ dXR_reset_49 (fun H locs hP hS => ?_)
      exact tc_rrv C0 hP hS h dXR_reset_52
    · have h := tc_in hc h
      refine lv_aload_n hx hb dXR_reset_8 rfl (lv_at hl 0 rfl) ?_
      refine tc_rr_XR_d C0 hP (tc_use hN tw_623) dXR_reset_9 ?_
      refine lv_iload_n hx hb dXR_reset_12 rfl (lv_at hl 1 rfl) ?_
      refine lv_iconst (v := 0) hx hb dXR_reset_13 (by decide) ?_
      obtain ⟨hi, h⟩ := tc_gd_some h
      refine tc_rst3 C0 hJ hP hS hi dXR_reset_14 (fun H locs hP hS => ?_)
      refine lv_iinc (k := 1) (v := (l1 + 1)) (lv' := [(1, .int (l1 + 1)), (0, .ref (ad 0))]) hx hb dXR_reset_15 hl rfl rfl (by decide) rfl (fun ls hl => ?_)
      refine lv_goto (tgt := 2) hx hb dXR_reset_18 (by decide) ?_
      exact ih h hP hS (lv_sub hl [1, 0] rfl)
def m_XR_reset (σ : tc_S) : Option (tc_S) := (m_XR_reset_2 2000 σ 0)
set_option maxHeartbeats 4000000 in
set_option maxRecDepth 100000 in
theorem w_XR_reset_0 (C : tc_C p s m args meth c RXR cXR_reset 2 none D cA) (hJ : ∀ σ, va_D A (tc_rW ad cA σ)) {q : tc_S} {σ : tc_S} {H : Heap} {locs : List Loc} {ls : Array Slot} (h : m_XR_reset σ = some q) (hP : va_P D vwCl (tc_rW ad cA σ) H) (hS : va_S A s.heap H locs) (hl : lv_has ls 2 [(0, .ref (ad 0))]) : W p l e (tc_R 2) s m args below meth c H locs 0 0 (MQ below (tc_Qv D (tc_rW ad cA q) A) args s 0 0 A) (F0 m 0 ls []) := by
  have C0 := C
  obtain ⟨hx, hb, hml, hown, ⟨hK, hN⟩, hr, hlk⟩ := C
  unfold m_XR_reset at h
  refine lv_iconst (v := 0) hx hb dXR_reset_0 (by decide) ?_
  refine lv_istore_n (lv' := [(1, .int 0), (0, .ref (ad 0))]) hx hb dXR_reset_1 rfl hl (by decide) rfl (fun ls hl => ?_)
  exact w_XR_reset_2 C0 hJ _ h hP hS (lv_sub hl [1, 0] rfl)
theorem k_XR_reset (hJ : ∀ σ, va_D A (tc_rW ad cA σ)) {σ : tc_S} {q : tc_S} (h : m_XR_reset σ = some q) : Met l yXR_reset [.code yXR_reset cXR_reset 2 none] (tc_R 2) (tc_Pc D cA (tc_rW ad cA σ) [.ref (ad 0)]) (tc_Qv D (tc_rW ad cA q) A) 0 0 A :=
  tc_met (by decide) (Nat.le_of_ble_eq_true rfl) (fun _ _ _ _ _ _ _ C hP _ hl => w_XR_reset_0 C hJ h hP va_S.rf hl)
def m_XR_pad (σ : tc_S) (l1 : Int32) : Option (tc_S) := (some (tc_sf σ 32 (l1 &&& 255)))
set_option maxHeartbeats 4000000 in
set_option maxRecDepth 100000 in
theorem w_XR_pad_0 (C : tc_C p s m args meth c RXR cXR_pad 2 none D cA) (hJ : ∀ σ, va_D A (tc_rW ad cA σ)) {q : tc_S} {σ : tc_S} {l1 : Int32} {H : Heap} {locs : List Loc} {ls : Array Slot} (h : m_XR_pad σ l1 = some q) (hP : va_P D vwCl (tc_rW ad cA σ) H) (hS : va_S A s.heap H locs) (hl : lv_has ls 2 [(0, .ref (ad 0)), (1, .int l1)]) : W p l e (tc_R 0) s m args below meth c H locs 0 0 (MQ below (tc_Qv D (tc_rW ad cA q) A) args s 0 0 A) (F0 m 0 ls []) := by
  have C0 := C
  obtain ⟨hx, hb, hml, hown, ⟨hK, hN⟩, hr, hlk⟩ := C
  unfold m_XR_pad at h
  refine lv_aload_n hx hb dXR_pad_0 rfl (lv_at hl 0 rfl) ?_
  refine lv_iload_n hx hb dXR_pad_1 rfl (lv_at hl 1 rfl) ?_
  refine lv_sipush (v := 255) hx hb dXR_pad_2 (by decide) ?_
  refine lv_iand hx hb dXR_pad_5 ?_
  refine tc_rp32 C0 hJ hP hS (tc_use hN tw_636) dXR_pad_6 (fun H locs hP hS => ?_)
  exact tc_rrv C0 hP hS h dXR_pad_9
theorem k_XR_pad (hJ : ∀ σ, va_D A (tc_rW ad cA σ)) {σ : tc_S} {l1 : Int32} {q : tc_S} (h : m_XR_pad σ l1 = some q) : Met l yXR_pad [.code yXR_pad cXR_pad 2 none] (tc_R 0) (tc_Pc D cA (tc_rW ad cA σ) [.ref (ad 0), .int l1]) (tc_Qv D (tc_rW ad cA q) A) 0 0 A :=
  tc_met (by decide) (Nat.le_of_ble_eq_true rfl) (fun _ _ _ _ _ _ _ C hP _ hl => w_XR_pad_0 C hJ h hP va_S.rf hl)
def m_XR_fetch (σ : tc_S) : Option (Int32 × tc_S) := ((m_XR_quiet σ (tc_gf σ 1)).bind (fun q5 => (some (q5.1, (tc_sf q5.2 1 (((tc_gf q5.2 1) + 2) &&& 65535))))))
set_option maxHeartbeats 4000000 in
set_option maxRecDepth 100000 in
theorem w_XR_fetch_0 (C : tc_C p s m args meth c RXR cXR_fetch 2 (some .int) D cA) (hJ : ∀ σ, va_D A (tc_rW ad cA σ)) {q : Int32 × tc_S} {σ : tc_S} {H : Heap} {locs : List Loc} {ls : Array Slot} (h : m_XR_fetch σ = some q) (hP : va_P D vwCl (tc_rW ad cA σ) H) (hS : va_S A s.heap H locs) (hl : lv_has ls 2 [(0, .ref (ad 0))]) : W p l e (tc_R 2) s m args below meth c H locs 0 0 (MQ below (tc_Qi D (tc_rW ad cA q.2) A q.1) args s 0 0 A) (F0 m 0 ls []) := by
  have C0 := C
  obtain ⟨hx, hb, hml, hown, ⟨hK, hN⟩, hr, hlk⟩ := C
  unfold m_XR_fetch at h
  refine lv_aload_n hx hb dXR_fetch_0 rfl (lv_at hl 0 rfl) ?_
  refine lv_aload_n hx hb dXR_fetch_1 rfl (lv_at hl 0 rfl) ?_
  refine tc_rg1 C0 hP (tc_use hN tw_625) dXR_fetch_2 ?_
  obtain ⟨q5, e5, h⟩ := tc_bd_some h
  refine tc_cVi (As := [.int (tc_gf σ 1)]) (rest := []) C0 (k_XR_quiet hJ e5) tv_XR_76 (by decide) (by decide) hP hS hl 0 rfl rfl (Nat.le_of_ble_eq_true rfl) dXR_fetch_5 rfl (fun H locs hP hS => ?_)
  refine lv_istore_n (lv' := [(1, .int q5.1), (0, .ref (ad 0))]) hx hb dXR_fetch_8 rfl hl (by decide) rfl (fun ls hl => ?_)
  refine lv_aload_n hx hb dXR_fetch_9 rfl (lv_at hl 1 rfl) ?_
  refine lv_aload_n hx hb dXR_fetch_10 rfl (lv_at hl 1 rfl) ?_
  refine tc_rg1 C0 hP (tc_use hN tw_625) dXR_fetch_11 ?_
  refine lv_iconst (v := 2) hx hb dXR_fetch_14 (by decide) ?_
  refine lv_iadd hx hb dXR_fetch_15 ?_
  refine lv_ldc (v := 65535) hx hb hown (tc_use hN tw_807) dXR_fetch_16 ?_
  refine lv_iand hx hb dXR_fetch_18 ?_
  refine tc_rp1 C0 hJ hP hS (tc_use hN tw_625) dXR_fetch_19 (fun H locs hP hS => ?_)
  refine lv_iload_n hx hb dXR_fetch_22 rfl (lv_at hl 0 rfl) ?_
  exact tc_rri C0 hP hS h dXR_fetch_23
theorem k_XR_fetch (hJ : ∀ σ, va_D A (tc_rW ad cA σ)) {σ : tc_S} {q : Int32 × tc_S} (h : m_XR_fetch σ = some q) : Met l yXR_fetch [.code yXR_fetch cXR_fetch 2 (some .int)] (tc_R 2) (tc_Pc D cA (tc_rW ad cA σ) [.ref (ad 0)]) (tc_Qi D (tc_rW ad cA q.2) A q.1) 0 0 A :=
  tc_met (by decide) (Nat.le_of_ble_eq_true rfl) (fun _ _ _ _ _ _ _ C hP _ hl => w_XR_fetch_0 C hJ h hP va_S.rf hl)
def m_XR_add_114 (σ : tc_S) (l5 k0 : Int32) : Option (Int32 × tc_S) := (tc_gb k0 (some (l5, (tc_sf σ 6 k0))))
set_option maxHeartbeats 4000000 in
set_option maxRecDepth 100000 in
theorem w_XR_add_114 (C : tc_C p s m args meth c RXR cXR_add 7 (some .int) D cA) (hJ : ∀ σ, va_D A (tc_rW ad cA σ)) {q : Int32 × tc_S} {σ : tc_S} {l5 k0 : Int32} {H : Heap} {locs : List Loc} {ls : Array Slot} (h : m_XR_add_114 σ l5 k0 = some q) (hP : va_P D vwCl (tc_rW ad cA σ) H) (hS : va_S A s.heap H locs) (hl : lv_has ls 7 [(5, .int l5)]) : W p l e (tc_R 0) s m args below meth c H locs 0 0 (MQ below (tc_Qi D (tc_rW ad cA q.2) A q.1) args s 0 0 A) (F0 m 114 ls [.int k0, .ref (ad 0)]) := by
  have C0 := C
  obtain ⟨hx, hb, hml, hown, ⟨hK, hN⟩, hr, hlk⟩ := C
  unfold m_XR_add_114 at h
  obtain ⟨hz, h⟩ := tc_gb_some h
  refine tc_rp6 C0 hJ hP hS (tc_use hN tw_630) hz dXR_add_114 (fun H locs hP hS => ?_)
  refine lv_iload hx hb dXR_add_117 (lv_at hl 0 rfl) ?_
  exact tc_rri C0 hP hS h dXR_add_119
def m_XR_add_109 (σ : tc_S) (l5 : Int32) : Option (Int32 × tc_S) := (m_XR_add_114 σ l5 1)
set_option maxHeartbeats 4000000 in
set_option maxRecDepth 100000 in
theorem w_XR_add_109 (C : tc_C p s m args meth c RXR cXR_add 7 (some .int) D cA) (hJ : ∀ σ, va_D A (tc_rW ad cA σ)) {q : Int32 × tc_S} {σ : tc_S} {l5 : Int32} {H : Heap} {locs : List Loc} {ls : Array Slot} (h : m_XR_add_109 σ l5 = some q) (hP : va_P D vwCl (tc_rW ad cA σ) H) (hS : va_S A s.heap H locs) (hl : lv_has ls 7 [(5, .int l5)]) : W p l e (tc_R 0) s m args below meth c H locs 0 0 (MQ below (tc_Qi D (tc_rW ad cA q.2) A q.1) args s 0 0 A) (F0 m 109 ls [.ref (ad 0)]) := by
  have C0 := C
  obtain ⟨hx, hb, hml, hown, ⟨hK, hN⟩, hr, hlk⟩ := C
  unfold m_XR_add_109 at h
  refine lv_iconst (v := 1) hx hb dXR_add_109 (by decide) ?_
  refine lv_goto (tgt := 114) hx hb dXR_add_110 (by decide) ?_
  exact w_XR_add_114 C0 hJ h hP hS (lv_sub hl [0] rfl)
def m_XR_add_93 (σ : tc_S) (l4 l5 k0 : Int32) : Option (Int32 × tc_S) := (tc_gb k0 (if l4 < 0 then (m_XR_add_109 (tc_sf σ 5 k0) l5) else (if l4 ≤ 65535 then (m_XR_add_114 (tc_sf σ 5 k0) l5 0) else (m_XR_add_109 (tc_sf σ 5 k0) l5))))
set_option maxHeartbeats 4000000 in
set_option maxRecDepth 100000 in
theorem w_XR_add_93 (C : tc_C p s m args meth c RXR cXR_add 7 (some .int) D cA) (hJ : ∀ σ, va_D A (tc_rW ad cA σ)) {q : Int32 × tc_S} {σ : tc_S} {l4 l5 k0 : Int32} {H : Heap} {locs : List Loc} {ls : Array Slot} (h : m_XR_add_93 σ l4 l5 k0 = some q) (hP : va_P D vwCl (tc_rW ad cA σ) H) (hS : va_S A s.heap H locs) (hl : lv_has ls 7 [(0, .ref (ad 0)), (4, .int l4), (5, .int l5)]) : W p l e (tc_R 0) s m args below meth c H locs 0 0 (MQ below (tc_Qi D (tc_rW ad cA q.2) A q.1) args s 0 0 A) (F0 m 93 ls [.int k0, .ref (ad 0)]) := by
  have C0 := C
  obtain ⟨hx, hb, hml, hown, ⟨hK, hN⟩, hr, hlk⟩ := C
  unfold m_XR_add_93 at h
  obtain ⟨hz, h⟩ := tc_gb_some h
  refine tc_rp5 C0 hJ hP hS (tc_use hN tw_629) hz dXR_add_93 (fun H locs hP hS => ?_)
  refine lv_aload_n hx hb dXR_add_96 rfl (lv_at hl 0 rfl) ?_
  refine lv_iload hx hb dXR_add_97 (lv_at hl 1 rfl) ?_
  refine lv_if_lt (tgt := 109) hx hb dXR_add_99 (by decide) (fun hc => ?_) (fun hc => ?_)
  · have h := tc_ip hc h
    exact w_XR_add_109 C0 hJ h hP hS (lv_sub hl [2] rfl)
  · have h := tc_in hc h
    refine lv_iload hx hb dXR_add_102 (lv_at hl 1 rfl) ?_
    refine lv_ldc (v := 65535) hx hb hown (tc_use hN tw_807) dXR_add_104 ?_
    refine lv_icmp_le (tgt := 113) hx hb dXR_add_106 (by decide) (fun hc => ?_) (fun hc => ?_)
    · have h := tc_ip hc h
      refine lv_iconst (v := 0) hx hb dXR_add_113 (by decide) ?_
      exact w_XR_add_114 C0 hJ h hP hS (lv_sub hl [2] rfl)
    · have h := tc_in hc h
      exact w_XR_add_109 C0 hJ h hP hS (lv_sub hl [2] rfl)
def m_XR_add_76 (σ : tc_S) (l4 l5 l6 k0 : Int32) : Option (Int32 × tc_S) := (tc_gb k0 (if (l6 &&& 32768) = 0 then (m_XR_add_93 (tc_sf σ 4 k0) l4 l5 0) else (m_XR_add_93 (tc_sf σ 4 k0) l4 l5 1)))
set_option maxHeartbeats 4000000 in
set_option maxRecDepth 100000 in
theorem w_XR_add_76 (C : tc_C p s m args meth c RXR cXR_add 7 (some .int) D cA) (hJ : ∀ σ, va_D A (tc_rW ad cA σ)) {q : Int32 × tc_S} {σ : tc_S} {l4 l5 l6 k0 : Int32} {H : Heap} {locs : List Loc} {ls : Array Slot} (h : m_XR_add_76 σ l4 l5 l6 k0 = some q) (hP : va_P D vwCl (tc_rW ad cA σ) H) (hS : va_S A s.heap H locs) (hl : lv_has ls 7 [(0, .ref (ad 0)), (4, .int l4), (5, .int l5), (6, .int l6)]) : W p l e (tc_R 0) s m args below meth c H locs 0 0 (MQ below (tc_Qi D (tc_rW ad cA q.2) A q.1) args s 0 0 A) (F0 m 76 ls [.int k0, .ref (ad 0)]) := by
  have C0 := C
  obtain ⟨hx, hb, hml, hown, ⟨hK, hN⟩, hr, hlk⟩ := C
  unfold m_XR_add_76 at h
  obtain ⟨hz, h⟩ := tc_gb_some h
  refine tc_rp4 C0 hJ hP hS (tc_use hN tw_628) hz dXR_add_76 (fun H locs hP hS => ?_)
  refine lv_aload_n hx hb dXR_add_79 rfl (lv_at hl 0 rfl) ?_
  refine lv_iload hx hb dXR_add_80 (lv_at hl 3 rfl) ?_
  refine lv_ldc (v := 32768) hx hb hown (tc_use hN tw_876) dXR_add_82 ?_
  refine lv_iand hx hb dXR_add_84 ?_
  refine lv_if_eq (tgt := 92) hx hb dXR_add_85 (by decide) (fun hc => ?_) (fun hc => ?_)
  · have h := tc_ip hc h
    refine lv_iconst (v := 0) hx hb dXR_add_92 (by decide) ?_
    exact w_XR_add_93 C0 hJ h hP hS (lv_sub hl [0, 1, 2] rfl)
  · have h := tc_in hc h
    refine lv_iconst (v := 1) hx hb dXR_add_88 (by decide) ?_
    refine lv_goto (tgt := 93) hx hb dXR_add_89 (by decide) ?_
    exact w_XR_add_93 C0 hJ h hP hS (lv_sub hl [0, 1, 2] rfl)
def m_XR_add_62 (σ : tc_S) (l4 l5 l6 k0 : Int32) : Option (Int32 × tc_S) := (tc_gb k0 (if l5 = 0 then (m_XR_add_76 (tc_sf σ 3 k0) l4 l5 l6 1) else (m_XR_add_76 (tc_sf σ 3 k0) l4 l5 l6 0)))
set_option maxHeartbeats 4000000 in
set_option maxRecDepth 100000 in
theorem w_XR_add_62 (C : tc_C p s m args meth c RXR cXR_add 7 (some .int) D cA) (hJ : ∀ σ, va_D A (tc_rW ad cA σ)) {q : Int32 × tc_S} {σ : tc_S} {l4 l5 l6 k0 : Int32} {H : Heap} {locs : List Loc} {ls : Array Slot} (h : m_XR_add_62 σ l4 l5 l6 k0 = some q) (hP : va_P D vwCl (tc_rW ad cA σ) H) (hS : va_S A s.heap H locs) (hl : lv_has ls 7 [(0, .ref (ad 0)), (4, .int l4), (5, .int l5), (6, .int l6)]) : W p l e (tc_R 0) s m args below meth c H locs 0 0 (MQ below (tc_Qi D (tc_rW ad cA q.2) A q.1) args s 0 0 A) (F0 m 62 ls [.int k0, .ref (ad 0)]) := by
  have C0 := C
  obtain ⟨hx, hb, hml, hown, ⟨hK, hN⟩, hr, hlk⟩ := C
  unfold m_XR_add_62 at h
  obtain ⟨hz, h⟩ := tc_gb_some h
  refine tc_rp3 C0 hJ hP hS (tc_use hN tw_627) hz dXR_add_62 (fun H locs hP hS => ?_)
  refine lv_aload_n hx hb dXR_add_65 rfl (lv_at hl 0 rfl) ?_
  refine lv_iload hx hb dXR_add_66 (lv_at hl 2 rfl) ?_
  refine lv_if_ne (tgt := 75) hx hb dXR_add_68 (by decide) (fun hc => ?_) (fun hc => ?_)
  · have h := tc_in hc h
    refine lv_iconst (v := 0) hx hb dXR_add_75 (by decide) ?_
    exact w_XR_add_76 C0 hJ h hP hS (lv_sub hl [0, 1, 2, 3] rfl)
  · have h := tc_ip hc h
    refine lv_iconst (v := 1) hx hb dXR_add_71 (by decide) ?_
    refine lv_goto (tgt := 76) hx hb dXR_add_72 (by decide) ?_
    exact w_XR_add_76 C0 hJ h hP hS (lv_sub hl [0, 1, 2, 3] rfl)
def m_XR_add_47 (σ : tc_S) (l4 l5 k0 : Int32) : Option (Int32 × tc_S) := (if l5 < 32768 then (m_XR_add_62 σ l4 l5 k0 0) else (m_XR_add_62 σ l4 l5 k0 1))
set_option maxHeartbeats 4000000 in
set_option maxRecDepth 100000 in
theorem w_XR_add_47 (C : tc_C p s m args meth c RXR cXR_add 7 (some .int) D cA) (hJ : ∀ σ, va_D A (tc_rW ad cA σ)) {q : Int32 × tc_S} {σ : tc_S} {l4 l5 k0 : Int32} {H : Heap} {locs : List Loc} {ls : Array Slot} (h : m_XR_add_47 σ l4 l5 k0 = some q) (hP : va_P D vwCl (tc_rW ad cA σ) H) (hS : va_S A s.heap H locs) (hl : lv_has ls 7 [(0, .ref (ad 0)), (4, .int l4), (5, .int l5)]) : W p l e (tc_R 0) s m args below meth c H locs 0 0 (MQ below (tc_Qi D (tc_rW ad cA q.2) A q.1) args s 0 0 A) (F0 m 47 ls [.int k0]) := by
  have C0 := C
  obtain ⟨hx, hb, hml, hown, ⟨hK, hN⟩, hr, hlk⟩ := C
  unfold m_XR_add_47 at h
  refine lv_istore (lv' := [(6, .int k0), (0, .ref (ad 0)), (4, .int l4), (5, .int l5)]) hx hb dXR_add_47 hl (by decide) rfl (fun ls hl => ?_)
  refine lv_aload_n hx hb dXR_add_49 rfl (lv_at hl 1 rfl) ?_
  refine lv_iload hx hb dXR_add_50 (lv_at hl 3 rfl) ?_
  refine lv_ldc (v := 32768) hx hb hown (tc_use hN tw_876) dXR_add_52 ?_
  refine lv_icmp_lt (tgt := 61) hx hb dXR_add_54 (by decide) (fun hc => ?_) (fun hc => ?_)
  · have h := tc_ip hc h
    refine lv_iconst (v := 0) hx hb dXR_add_61 (by decide) ?_
    exact w_XR_add_62 C0 hJ h hP hS (lv_sub hl [1, 2, 3, 0] rfl)
  · have h := tc_in hc h
    refine lv_iconst (v := 1) hx hb dXR_add_57 (by decide) ?_
    refine lv_goto (tgt := 62) hx hb dXR_add_58 (by decide) ?_
    exact w_XR_add_62 C0 hJ h hP hS (lv_sub hl [1, 2, 3, 0] rfl)
def m_XR_add_13 (σ : tc_S) (l1 l2 l3 k0 : Int32) : Option (Int32 × tc_S) := (if l3 = 0 then (m_XR_add_47 σ k0 (k0 &&& 65535) (((l1 ^^^ l2) ^^^ (-1)) &&& (l1 ^^^ (k0 &&& 65535)))) else (m_XR_add_47 σ k0 (k0 &&& 65535) ((l1 ^^^ l2) &&& (l1 ^^^ (k0 &&& 65535)))))
set_option maxHeartbeats 4000000 in
set_option maxRecDepth 100000 in
theorem w_XR_add_13 (C : tc_C p s m args meth c RXR cXR_add 7 (some .int) D cA) (hJ : ∀ σ, va_D A (tc_rW ad cA σ)) {q : Int32 × tc_S} {σ : tc_S} {l1 l2 l3 k0 : Int32} {H : Heap} {locs : List Loc} {ls : Array Slot} (h : m_XR_add_13 σ l1 l2 l3 k0 = some q) (hP : va_P D vwCl (tc_rW ad cA σ) H) (hS : va_S A s.heap H locs) (hl : lv_has ls 7 [(0, .ref (ad 0)), (1, .int l1), (2, .int l2), (3, .int l3)]) : W p l e (tc_R 0) s m args below meth c H locs 0 0 (MQ below (tc_Qi D (tc_rW ad cA q.2) A q.1) args s 0 0 A) (F0 m 13 ls [.int k0]) := by
  have C0 := C
  obtain ⟨hx, hb, hml, hown, ⟨hK, hN⟩, hr, hlk⟩ := C
  unfold m_XR_add_13 at h
  refine lv_istore (lv' := [(4, .int k0), (0, .ref (ad 0)), (1, .int l1), (2, .int l2), (3, .int l3)]) hx hb dXR_add_13 hl (by decide) rfl (fun ls hl => ?_)
  refine lv_iload hx hb dXR_add_15 (lv_at hl 0 rfl) ?_
  refine lv_ldc (v := 65535) hx hb hown (tc_use hN tw_807) dXR_add_17 ?_
  refine lv_iand hx hb dXR_add_19 ?_
  refine lv_istore (lv' := [(5, .int (k0 &&& 65535)), (4, .int k0), (0, .ref (ad 0)), (1, .int l1), (2, .int l2), (3, .int l3)]) hx hb dXR_add_20 hl (by decide) rfl (fun ls hl => ?_)
  refine lv_iload_n hx hb dXR_add_22 rfl (lv_at hl 5 rfl) ?_
  refine lv_if_eq (tgt := 37) hx hb dXR_add_23 (by decide) (fun hc => ?_) (fun hc => ?_)
  · have h := tc_ip hc h
    refine lv_iload_n hx hb dXR_add_37 rfl (lv_at hl 3 rfl) ?_
    refine lv_iload_n hx hb dXR_add_38 rfl (lv_at hl 4 rfl) ?_
    refine lv_ixor hx hb dXR_add_39 ?_
    refine lv_iconst (v := (-1)) hx hb dXR_add_40 (by decide) ?_
    refine lv_ixor hx hb dXR_add_41 ?_
    refine lv_iload_n hx hb dXR_add_42 rfl (lv_at hl 3 rfl) ?_
    refine lv_iload hx hb dXR_add_43 (lv_at hl 0 rfl) ?_
    refine lv_ixor hx hb dXR_add_45 ?_
    refine lv_iand hx hb dXR_add_46 ?_
    exact w_XR_add_47 C0 hJ h hP hS (lv_sub hl [2, 1, 0] rfl)
  · have h := tc_in hc h
    refine lv_iload_n hx hb dXR_add_26 rfl (lv_at hl 3 rfl) ?_
    refine lv_iload_n hx hb dXR_add_27 rfl (lv_at hl 4 rfl) ?_
    refine lv_ixor hx hb dXR_add_28 ?_
    refine lv_iload_n hx hb dXR_add_29 rfl (lv_at hl 3 rfl) ?_
    refine lv_iload hx hb dXR_add_30 (lv_at hl 0 rfl) ?_
    refine lv_ixor hx hb dXR_add_32 ?_
    refine lv_iand hx hb dXR_add_33 ?_
    refine lv_goto (tgt := 47) hx hb dXR_add_34 (by decide) ?_
    exact w_XR_add_47 C0 hJ h hP hS (lv_sub hl [2, 1, 0] rfl)
def m_XR_add (σ : tc_S) (l1 l2 l3 : Int32) : Option (Int32 × tc_S) := (if l3 = 0 then (m_XR_add_13 σ l1 l2 l3 (l1 + l2)) else (m_XR_add_13 σ l1 l2 l3 (l1 - l2)))
set_option maxHeartbeats 4000000 in
set_option maxRecDepth 100000 in
theorem w_XR_add_0 (C : tc_C p s m args meth c RXR cXR_add 7 (some .int) D cA) (hJ : ∀ σ, va_D A (tc_rW ad cA σ)) {q : Int32 × tc_S} {σ : tc_S} {l1 l2 l3 : Int32} {H : Heap} {locs : List Loc} {ls : Array Slot} (h : m_XR_add σ l1 l2 l3 = some q) (hP : va_P D vwCl (tc_rW ad cA σ) H) (hS : va_S A s.heap H locs) (hl : lv_has ls 7 [(0, .ref (ad 0)), (1, .int l1), (2, .int l2), (3, .int l3)]) : W p l e (tc_R 0) s m args below meth c H locs 0 0 (MQ below (tc_Qi D (tc_rW ad cA q.2) A q.1) args s 0 0 A) (F0 m 0 ls []) := by
  have C0 := C
  obtain ⟨hx, hb, hml, hown, ⟨hK, hN⟩, hr, hlk⟩ := C
  unfold m_XR_add at h
  refine lv_iload_n hx hb dXR_add_0 rfl (lv_at hl 3 rfl) ?_
  refine lv_if_eq (tgt := 10) hx hb dXR_add_1 (by decide) (fun hc => ?_) (fun hc => ?_)
  · have h := tc_ip hc h
    refine lv_iload_n hx hb dXR_add_10 rfl (lv_at hl 1 rfl) ?_
    refine lv_iload_n hx hb dXR_add_11 rfl (lv_at hl 2 rfl) ?_
    refine lv_iadd hx hb dXR_add_12 ?_
    exact w_XR_add_13 C0 hJ h hP hS (lv_sub hl [0, 1, 2, 3] rfl)
  · have h := tc_in hc h
    refine lv_iload_n hx hb dXR_add_4 rfl (lv_at hl 1 rfl) ?_
    refine lv_iload_n hx hb dXR_add_5 rfl (lv_at hl 2 rfl) ?_
    refine lv_isub hx hb dXR_add_6 ?_
    refine lv_goto (tgt := 13) hx hb dXR_add_7 (by decide) ?_
    exact w_XR_add_13 C0 hJ h hP hS (lv_sub hl [0, 1, 2, 3] rfl)
theorem k_XR_add (hJ : ∀ σ, va_D A (tc_rW ad cA σ)) {σ : tc_S} {l1 l2 l3 : Int32} {q : Int32 × tc_S} (h : m_XR_add σ l1 l2 l3 = some q) : Met l yXR_add [.code yXR_add cXR_add 7 (some .int)] (tc_R 0) (tc_Pc D cA (tc_rW ad cA σ) [.ref (ad 0), .int l1, .int l2, .int l3]) (tc_Qi D (tc_rW ad cA q.2) A q.1) 0 0 A :=
  tc_met (by decide) (Nat.le_of_ble_eq_true rfl) (fun _ _ _ _ _ _ _ C hP _ hl => w_XR_add_0 C hJ h hP va_S.rf hl)
def m_XR_setLow (σ : tc_S) (l1 l2 : Int32) : Option (tc_S) := (tc_gd l1 8 (tc_gd l1 8 (some (tc_sa σ 0 l1 (((tc_ga σ 0 l1) &&& (-65536)) ||| l2)))))
set_option maxHeartbeats 4000000 in
set_option maxRecDepth 100000 in
theorem w_XR_setLow_0 (C : tc_C p s m args meth c RXR cXR_setLow 3 none D cA) (hJ : ∀ σ, va_D A (tc_rW ad cA σ)) {q : tc_S} {σ : tc_S} {l1 l2 : Int32} {H : Heap} {locs : List Loc} {ls : Array Slot} (h : m_XR_setLow σ l1 l2 = some q) (hP : va_P D vwCl (tc_rW ad cA σ) H) (hS : va_S A s.heap H locs) (hl : lv_has ls 3 [(0, .ref (ad 0)), (1, .int l1), (2, .int l2)]) : W p l e (tc_R 0) s m args below meth c H locs 0 0 (MQ below (tc_Qv D (tc_rW ad cA q) A) args s 0 0 A) (F0 m 0 ls []) := by
  have C0 := C
  obtain ⟨hx, hb, hml, hown, ⟨hK, hN⟩, hr, hlk⟩ := C
  unfold m_XR_setLow at h
  refine lv_aload_n hx hb dXR_setLow_0 rfl (lv_at hl 0 rfl) ?_
  refine tc_rr_XR_d C0 hP (tc_use hN tw_623) dXR_setLow_1 ?_
  refine lv_iload_n hx hb dXR_setLow_4 rfl (lv_at hl 1 rfl) ?_
  refine lv_aload_n hx hb dXR_setLow_5 rfl (lv_at hl 0 rfl) ?_
  refine tc_rr_XR_d C0 hP (tc_use hN tw_623) dXR_setLow_6 ?_
  refine lv_iload_n hx hb dXR_setLow_9 rfl (lv_at hl 1 rfl) ?_
  obtain ⟨hi, h⟩ := tc_gd_some h
  refine tc_rld3 C0 hP hi dXR_setLow_10 ?_
  refine lv_ldc (v := (-65536)) hx hb hown (tc_use hN tw_871) dXR_setLow_11 ?_
  refine lv_iand hx hb dXR_setLow_13 ?_
  refine lv_iload_n hx hb dXR_setLow_14 rfl (lv_at hl 2 rfl) ?_
  refine lv_ior hx hb dXR_setLow_15 ?_
  obtain ⟨hi, h⟩ := tc_gd_some h
  refine tc_rst3 C0 hJ hP hS hi dXR_setLow_16 (fun H locs hP hS => ?_)
  exact tc_rrv C0 hP hS h dXR_setLow_17
theorem k_XR_setLow (hJ : ∀ σ, va_D A (tc_rW ad cA σ)) {σ : tc_S} {l1 l2 : Int32} {q : tc_S} (h : m_XR_setLow σ l1 l2 = some q) : Met l yXR_setLow [.code yXR_setLow cXR_setLow 3 none] (tc_R 0) (tc_Pc D cA (tc_rW ad cA σ) [.ref (ad 0), .int l1, .int l2]) (tc_Qv D (tc_rW ad cA q) A) 0 0 A :=
  tc_met (by decide) (Nat.le_of_ble_eq_true rfl) (fun _ _ _ _ _ _ _ C hP _ hl => w_XR_setLow_0 C hJ h hP va_S.rf hl)
def m_XR_resetSecond_51 (σ : tc_S) (l1 : Int32) : Option (tc_S) := (tc_gb l1 (some (tc_sf σ 16 l1)))
set_option maxHeartbeats 4000000 in
set_option maxRecDepth 100000 in
theorem w_XR_resetSecond_51 (C : tc_C p s m args meth c RXR cXR_resetSecond 2 none D cA) (hJ : ∀ σ, va_D A (tc_rW ad cA σ)) {q : tc_S} {σ : tc_S} {l1 : Int32} {H : Heap} {locs : List Loc} {ls : Array Slot} (h : m_XR_resetSecond_51 σ l1 = some q) (hP : va_P D vwCl (tc_rW ad cA σ) H) (hS : va_S A s.heap H locs) (hl : lv_has ls 2 [(0, .ref (ad 0)), (1, .int l1)]) : W p l e (tc_R 0) s m args below meth c H locs 0 0 (MQ below (tc_Qv D (tc_rW ad cA q) A) args s 0 0 A) (F0 m 51 ls []) := by
  have C0 := C
  obtain ⟨hx, hb, hml, hown, ⟨hK, hN⟩, hr, hlk⟩ := C
  unfold m_XR_resetSecond_51 at h
  refine lv_aload_n hx hb dXR_resetSecond_51 rfl (lv_at hl 0 rfl) ?_
  refine lv_iload_n hx hb dXR_resetSecond_52 rfl (lv_at hl 1 rfl) ?_
  obtain ⟨hz, h⟩ := tc_gb_some h
  refine tc_rp16 C0 hJ hP hS (tc_use hN tw_647) hz dXR_resetSecond_53 (fun H locs hP hS => ?_)
  exact tc_rrv C0 hP hS h dXR_resetSecond_56
def m_XR_resetSecond (σ : tc_S) (l1 : Int32) : Option (tc_S) := (if l1 = 0 then (if (tc_gf σ 16) = 0 then (m_XR_resetSecond_51 σ l1) else (m_XR_resetSecond_51 (tc_sf (tc_sf (tc_sf (tc_sf (tc_sf (tc_sf (tc_sf (tc_sf σ 8 0) 9 0) 10 0) 11 0) 12 0) 13 0) 14 0) 17 0) l1)) else (m_XR_resetSecond_51 σ l1))
set_option maxHeartbeats 4000000 in
set_option maxRecDepth 100000 in
theorem w_XR_resetSecond_0 (C : tc_C p s m args meth c RXR cXR_resetSecond 2 none D cA) (hJ : ∀ σ, va_D A (tc_rW ad cA σ)) {q : tc_S} {σ : tc_S} {l1 : Int32} {H : Heap} {locs : List Loc} {ls : Array Slot} (h : m_XR_resetSecond σ l1 = some q) (hP : va_P D vwCl (tc_rW ad cA σ) H) (hS : va_S A s.heap H locs) (hl : lv_has ls 2 [(0, .ref (ad 0)), (1, .int l1)]) : W p l e (tc_R 0) s m args below meth c H locs 0 0 (MQ below (tc_Qv D (tc_rW ad cA q) A) args s 0 0 A) (F0 m 0 ls []) := by
  have C0 := C
  obtain ⟨hx, hb, hml, hown, ⟨hK, hN⟩, hr, hlk⟩ := C
  unfold m_XR_resetSecond at h
  refine lv_iload_n hx hb dXR_resetSecond_0 rfl (lv_at hl 1 rfl) ?_
  refine lv_if_ne (tgt := 51) hx hb dXR_resetSecond_1 (by decide) (fun hc => ?_) (fun hc => ?_)
  · have h := tc_in hc h
    exact w_XR_resetSecond_51 C0 hJ h hP hS (lv_sub hl [0, 1] rfl)
  · have h := tc_ip hc h
    refine lv_aload_n hx hb dXR_resetSecond_4 rfl (lv_at hl 0 rfl) ?_
    refine tc_rg16 C0 hP (tc_use hN tw_647) dXR_resetSecond_5 ?_
    refine lv_if_eq (tgt := 51) hx hb dXR_resetSecond_8 (by decide) (fun hc => ?_) (fun hc => ?_)
    · have h := tc_ip hc h
      exact w_XR_resetSecond_51 C0 hJ h hP hS (lv_sub hl [0, 1] rfl)
    · have h := tc_in hc h
      refine lv_aload_n hx hb dXR_resetSecond_11 rfl (lv_at hl 0 rfl) ?_
      refine lv_iconst (v := 0) hx hb dXR_resetSecond_12 (by decide) ?_
      refine tc_rp8 C0 hJ hP hS (tc_use hN tw_639) dXR_resetSecond_13 (fun H locs hP hS => ?_)
      refine lv_aload_n hx hb dXR_resetSecond_16 rfl (lv_at hl 0 rfl) ?_
      refine lv_iconst (v := 0) hx hb dXR_resetSecond_17 (by decide) ?_
      refine tc_rp9 C0 hJ hP hS (tc_use hN tw_640) dXR_resetSecond_18 (fun H locs hP hS => ?_)
      refine lv_aload_n hx hb dXR_resetSecond_21 rfl (lv_at hl 0 rfl) ?_
      refine lv_iconst (v := 0) hx hb dXR_resetSecond_22 (by decide) ?_
      refine tc_rp10 C0 hJ hP hS (tc_use hN tw_641) dXR_resetSecond_23 (fun H locs hP hS => ?_)
      refine lv_aload_n hx hb dXR_resetSecond_26 rfl (lv_at hl 0 rfl) ?_
      refine lv_iconst (v := 0) hx hb dXR_resetSecond_27 (by decide) ?_
      refine tc_rp11 C0 hJ hP hS (tc_use hN tw_642) dXR_resetSecond_28 (fun H locs hP hS => ?_)
      refine lv_aload_n hx hb dXR_resetSecond_31 rfl (lv_at hl 0 rfl) ?_
      refine lv_iconst (v := 0) hx hb dXR_resetSecond_32 (by decide) ?_
      refine tc_rp12 C0 hJ hP hS (tc_use hN tw_643) ⟨by decide, by decide⟩ dXR_resetSecond_33 (fun H locs hP hS => ?_)
      refine lv_aload_n hx hb dXR_resetSecond_36 rfl (lv_at hl 0 rfl) ?_
      refine lv_iconst (v := 0) hx hb dXR_resetSecond_37 (by decide) ?_
      refine tc_rp13 C0 hJ hP hS (tc_use hN tw_644) ⟨by decide, by decide⟩ dXR_resetSecond_38 (fun H locs hP hS => ?_)
      refine lv_aload_n hx hb dXR_resetSecond_41 rfl (lv_at hl 0 rfl) ?_
      refine lv_iconst (v := 0) hx hb dXR_resetSecond_42 (by decide) ?_
      refine tc_rp14 C0 hJ hP hS (tc_use hN tw_645) ⟨by decide, by decide⟩ dXR_resetSecond_43 (fun H locs hP hS => ?_)
      refine lv_aload_n hx hb dXR_resetSecond_46 rfl (lv_at hl 0 rfl) ?_
      refine lv_iconst (v := 0) hx hb dXR_resetSecond_47 (by decide) ?_
      refine tc_rp17 C0 hJ hP hS (tc_use hN tw_648) dXR_resetSecond_48 (fun H locs hP hS => ?_)
      exact w_XR_resetSecond_51 C0 hJ h hP hS (lv_sub hl [0, 1] rfl)
theorem k_XR_resetSecond (hJ : ∀ σ, va_D A (tc_rW ad cA σ)) {σ : tc_S} {l1 : Int32} {q : tc_S} (h : m_XR_resetSecond σ l1 = some q) : Met l yXR_resetSecond [.code yXR_resetSecond cXR_resetSecond 2 none] (tc_R 0) (tc_Pc D cA (tc_rW ad cA σ) [.ref (ad 0), .int l1]) (tc_Qv D (tc_rW ad cA q) A) 0 0 A :=
  tc_met (by decide) (Nat.le_of_ble_eq_true rfl) (fun _ _ _ _ _ _ _ C hP _ hl => w_XR_resetSecond_0 C hJ h hP va_S.rf hl)
def m_XR_length_35 (σ : tc_S) (k0 : Int32) : Option (Int32 × tc_S) := (some (k0, σ))
set_option maxHeartbeats 4000000 in
set_option maxRecDepth 100000 in
theorem w_XR_length_35 (C : tc_C p s m args meth c RXR cXR_length 2 (some .int) D cA) (hJ : ∀ σ, va_D A (tc_rW ad cA σ)) {q : Int32 × tc_S} {σ : tc_S} {k0 : Int32} {H : Heap} {locs : List Loc} {ls : Array Slot} (h : m_XR_length_35 σ k0 = some q) (hP : va_P D vwCl (tc_rW ad cA σ) H) (hS : va_S A s.heap H locs) (hl : lv_has ls 2 []) : W p l e (tc_R 0) s m args below meth c H locs 0 0 (MQ below (tc_Qi D (tc_rW ad cA q.2) A q.1) args s 0 0 A) (F0 m 35 ls [.int k0]) := by
  have C0 := C
  obtain ⟨hx, hb, hml, hown, ⟨hK, hN⟩, hr, hlk⟩ := C
  unfold m_XR_length_35 at h
  exact tc_rri C0 hP hS h dXR_length_35
def m_XR_length (σ : tc_S) : Option (Int32 × tc_S) := (tc_gd 12 16 (tc_gd 11 16 (if (((256 * (tc_ga σ 5 12)) + (tc_ga σ 5 11)) - ((256 * (tc_ga σ 5 12)) + (tc_ga σ 5 11)) / 512 * 512) = 0 then (m_XR_length_35 σ 512) else (m_XR_length_35 σ (((256 * (tc_ga σ 5 12)) + (tc_ga σ 5 11)) - ((256 * (tc_ga σ 5 12)) + (tc_ga σ 5 11)) / 512 * 512)))))
set_option maxHeartbeats 4000000 in
set_option maxRecDepth 100000 in
theorem w_XR_length_0 (C : tc_C p s m args meth c RXR cXR_length 2 (some .int) D cA) (hJ : ∀ σ, va_D A (tc_rW ad cA σ)) {q : Int32 × tc_S} {σ : tc_S} {H : Heap} {locs : List Loc} {ls : Array Slot} (h : m_XR_length σ = some q) (hP : va_P D vwCl (tc_rW ad cA σ) H) (hS : va_S A s.heap H locs) (hl : lv_has ls 2 [(0, .ref (ad 0))]) : W p l e (tc_R 0) s m args below meth c H locs 0 0 (MQ below (tc_Qi D (tc_rW ad cA q.2) A q.1) args s 0 0 A) (F0 m 0 ls []) := by
  have C0 := C
  obtain ⟨hx, hb, hml, hown, ⟨hK, hN⟩, hr, hlk⟩ := C
  unfold m_XR_length at h
  refine lv_sipush (v := 256) hx hb dXR_length_0 (by decide) ?_
  refine lv_aload_n hx hb dXR_length_3 rfl (lv_at hl 0 rfl) ?_
  refine tc_rr_XR_regs C0 hP (tc_use hN tw_653) dXR_length_4 ?_
  refine lv_bipush (v := 12) hx hb dXR_length_7 (by decide) ?_
  obtain ⟨hi, h⟩ := tc_gd_some h
  refine tc_rld8 C0 hP hi dXR_length_9 ?_
  refine lv_imul hx hb dXR_length_10 ?_
  refine lv_aload_n hx hb dXR_length_11 rfl (lv_at hl 0 rfl) ?_
  refine tc_rr_XR_regs C0 hP (tc_use hN tw_653) dXR_length_12 ?_
  refine lv_bipush (v := 11) hx hb dXR_length_15 (by decide) ?_
  obtain ⟨hi, h⟩ := tc_gd_some h
  refine tc_rld8 C0 hP hi dXR_length_17 ?_
  refine lv_iadd hx hb dXR_length_18 ?_
  refine lv_sipush (v := 512) hx hb dXR_length_19 (by decide) ?_
  refine lv_irem hx hb dXR_length_22 (by decide) ?_
  refine lv_istore_n (lv' := [(1, .int (((256 * (tc_ga σ 5 12)) + (tc_ga σ 5 11)) - ((256 * (tc_ga σ 5 12)) + (tc_ga σ 5 11)) / 512 * 512)), (0, .ref (ad 0))]) hx hb dXR_length_23 rfl hl (by decide) rfl (fun ls hl => ?_)
  refine lv_iload_n hx hb dXR_length_24 rfl (lv_at hl 0 rfl) ?_
  refine lv_if_ne (tgt := 34) hx hb dXR_length_25 (by decide) (fun hc => ?_) (fun hc => ?_)
  · have h := tc_in hc h
    refine lv_iload_n hx hb dXR_length_34 rfl (lv_at hl 0 rfl) ?_
    exact w_XR_length_35 C0 hJ h hP hS (lv_sub hl [] rfl)
  · have h := tc_ip hc h
    refine lv_sipush (v := 512) hx hb dXR_length_28 (by decide) ?_
    refine lv_goto (tgt := 35) hx hb dXR_length_31 (by decide) ?_
    exact w_XR_length_35 C0 hJ h hP hS (lv_sub hl [] rfl)
theorem k_XR_length (hJ : ∀ σ, va_D A (tc_rW ad cA σ)) {σ : tc_S} {q : Int32 × tc_S} (h : m_XR_length σ = some q) : Met l yXR_length [.code yXR_length cXR_length 2 (some .int)] (tc_R 0) (tc_Pc D cA (tc_rW ad cA σ) [.ref (ad 0)]) (tc_Qi D (tc_rW ad cA q.2) A q.1) 0 0 A :=
  tc_met (by decide) (Nat.le_of_ble_eq_true rfl) (fun _ _ _ _ _ _ _ C hP _ hl => w_XR_length_0 C hJ h hP va_S.rf hl)
def m_XR_half (σ : tc_S) : Option (Int32 × tc_S) := (tc_gd 10 16 (tc_gd 9 16 (some (((((tc_ga σ 5 10) &&& 127) * 256) + (tc_ga σ 5 9)), σ))))
set_option maxHeartbeats 4000000 in
set_option maxRecDepth 100000 in
theorem w_XR_half_0 (C : tc_C p s m args meth c RXR cXR_half 1 (some .int) D cA) (hJ : ∀ σ, va_D A (tc_rW ad cA σ)) {q : Int32 × tc_S} {σ : tc_S} {H : Heap} {locs : List Loc} {ls : Array Slot} (h : m_XR_half σ = some q) (hP : va_P D vwCl (tc_rW ad cA σ) H) (hS : va_S A s.heap H locs) (hl : lv_has ls 1 [(0, .ref (ad 0))]) : W p l e (tc_R 0) s m args below meth c H locs 0 0 (MQ below (tc_Qi D (tc_rW ad cA q.2) A q.1) args s 0 0 A) (F0 m 0 ls []) := by
  have C0 := C
  obtain ⟨hx, hb, hml, hown, ⟨hK, hN⟩, hr, hlk⟩ := C
  unfold m_XR_half at h
  refine lv_aload_n hx hb dXR_half_0 rfl (lv_at hl 0 rfl) ?_
  refine tc_rr_XR_regs C0 hP (tc_use hN tw_653) dXR_half_1 ?_
  refine lv_bipush (v := 10) hx hb dXR_half_4 (by decide) ?_
  obtain ⟨hi, h⟩ := tc_gd_some h
  refine tc_rld8 C0 hP hi dXR_half_6 ?_
  refine lv_bipush (v := 127) hx hb dXR_half_7 (by decide) ?_
  refine lv_iand hx hb dXR_half_9 ?_
  refine lv_sipush (v := 256) hx hb dXR_half_10 (by decide) ?_
  refine lv_imul hx hb dXR_half_13 ?_
  refine lv_aload_n hx hb dXR_half_14 rfl (lv_at hl 0 rfl) ?_
  refine tc_rr_XR_regs C0 hP (tc_use hN tw_653) dXR_half_15 ?_
  refine lv_bipush (v := 9) hx hb dXR_half_18 (by decide) ?_
  obtain ⟨hi, h⟩ := tc_gd_some h
  refine tc_rld8 C0 hP hi dXR_half_20 ?_
  refine lv_iadd hx hb dXR_half_21 ?_
  exact tc_rri C0 hP hS h dXR_half_22
theorem k_XR_half (hJ : ∀ σ, va_D A (tc_rW ad cA σ)) {σ : tc_S} {q : Int32 × tc_S} (h : m_XR_half σ = some q) : Met l yXR_half [.code yXR_half cXR_half 1 (some .int)] (tc_R 0) (tc_Pc D cA (tc_rW ad cA σ) [.ref (ad 0)]) (tc_Qi D (tc_rW ad cA q.2) A q.1) 0 0 A :=
  tc_met (by decide) (Nat.le_of_ble_eq_true rfl) (fun _ _ _ _ _ _ _ C hP _ hl => w_XR_half_0 C hJ h hP va_S.rf hl)
end WALK_R_08
