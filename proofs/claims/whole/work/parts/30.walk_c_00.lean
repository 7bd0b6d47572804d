section WALK_C_00
variable {p : Program} {l : Launch} {e : Env} {s : State} {m : MethodId} {args : Array Value} {below : List Frame} {meth : Method} {c : Code} {D : va_G} {cA : ClassId} {A : Nat → Prop} {ad : Nat → Nat}
def m_XT_rom_13 (σ : tc_S) : Option (Int32 × tc_S) := (some (0, σ))
set_option maxHeartbeats 4000000 in
set_option maxRecDepth 100000 in
theorem w_XT_rom_13 (C : tc_C p s m args meth c RXT cXT_rom 3 (some .boolean) D cA) (hJ : ∀ σ, va_D A (tc_cW ad cA σ)) {q : Int32 × tc_S} {σ : tc_S} {H : Heap} {locs : List Loc} {ls : Array Slot} (h : m_XT_rom_13 σ = some q) (hP : va_P D vwCl (tc_cW ad cA σ) H) (hS : va_S A s.heap H locs) (hl : lv_has ls 3 []) : W p l e (tc_R 0) s m args below meth c H locs 0 0 (MQ below (tc_Qi D (tc_cW ad cA q.2) A q.1) args s 0 0 A) (F0 m 13 ls []) := by
  have C0 := C
  obtain ⟨hx, hb, hml, hown, ⟨hK, hN⟩, hr, hlk⟩ := C
  unfold m_XT_rom_13 at h
  refine lv_iconst (v := 0) hx hb dXT_rom_13 (by decide) ?_
  exact tc_crz C0 hP hS ⟨by decide, by decide⟩ h dXT_rom_14
def m_XT_rom (σ : tc_S) (l1 l2 : Int32) : Option (Int32 × tc_S) := (if l1 < 0 then (m_XT_rom_13 σ) else (if l1 < 256 then (tc_gd l1 256 (some (1, (tc_sa σ 7 l1 (l2 &&& 65535))))) else (m_XT_rom_13 σ)))
set_option maxHeartbeats 4000000 in
set_option maxRecDepth 100000 in
theorem w_XT_rom_0 (C : tc_C p s m args meth c RXT cXT_rom 3 (some .boolean) D cA) (hJ : ∀ σ, va_D A (tc_cW ad cA σ)) {q : Int32 × tc_S} {σ : tc_S} {l1 l2 : Int32} {H : Heap} {locs : List Loc} {ls : Array Slot} (h : m_XT_rom σ l1 l2 = some q) (hP : va_P D vwCl (tc_cW ad cA σ) H) (hS : va_S A s.heap H locs) (hl : lv_has ls 3 [(0, .ref (ad 0)), (1, .int l1), (2, .int l2)]) : W p l e (tc_R 0) s m args below meth c H locs 0 0 (MQ below (tc_Qi D (tc_cW ad cA q.2) A q.1) args s 0 0 A) (F0 m 0 ls []) := by
  have C0 := C
  obtain ⟨hx, hb, hml, hown, ⟨hK, hN⟩, hr, hlk⟩ := C
  unfold m_XT_rom at h
  refine lv_iload_n hx hb dXT_rom_0 rfl (lv_at hl 1 rfl) ?_
  refine lv_if_lt (tgt := 13) hx hb dXT_rom_1 (by decide) (fun hc => ?_) (fun hc => ?_)
  · have h := tc_ip hc h
    exact w_XT_rom_13 C0 hJ h hP hS (lv_sub hl [] rfl)
  · have h := tc_in hc h
    refine lv_iload_n hx hb dXT_rom_4 rfl (lv_at hl 1 rfl) ?_
    refine lv_aload_n hx hb dXT_rom_5 rfl (lv_at hl 0 rfl) ?_
    refine tc_cr_XT_romWords C0 hP (tc_use hN tw_266) dXT_rom_6 ?_
    refine tc_cal7 C0 hP dXT_rom_9 ?_
    refine lv_icmp_lt (tgt := 15) hx hb dXT_rom_10 (by decide) (fun hc => ?_) (fun hc => ?_)
    · have h := tc_ip hc h
      refine lv_aload_n hx hb dXT_rom_15 rfl (lv_at hl 0 rfl) ?_
      refine tc_cr_XT_romWords C0 hP (tc_use hN tw_266) dXT_rom_16 ?_
      refine lv_iload_n hx hb dXT_rom_19 rfl (lv_at hl 1 rfl) ?_
      refine lv_iload_n hx hb dXT_rom_20 rfl (lv_at hl 2 rfl) ?_
      refine lv_ldc (v := 65535) hx hb hown (tc_use hN tw_292) dXT_rom_21 ?_
      refine lv_iand hx hb dXT_rom_23 ?_
      obtain ⟨hi, h⟩ := tc_gd_some h
      refine tc_cst7 C0 hJ hP hS hi dXT_rom_24 (fun H locs hP hS => ?_)
      refine lv_iconst (v := 1) hx hb dXT_rom_25 (by decide) ?_
      exact tc_crz C0 hP hS ⟨by decide, by decide⟩ h dXT_rom_26
    · have h := tc_in hc h
      exact w_XT_rom_13 C0 hJ h hP hS (lv_sub hl [] rfl)
theorem k_XT_rom (hJ : ∀ σ, va_D A (tc_cW ad cA σ)) {σ : tc_S} {l1 l2 : Int32} {q : Int32 × tc_S} (h : m_XT_rom σ l1 l2 = some q) : Met l yXT_rom [.code yXT_rom cXT_rom 3 (some .boolean)] (tc_R 0) (tc_Pc D cA (tc_cW ad cA σ) [.ref (ad 0), .int l1, .int l2]) (tc_Qi D (tc_cW ad cA q.2) A q.1) 0 0 A :=
  tc_met (by decide) (Nat.le_of_ble_eq_true rfl) (fun _ _ _ _ _ _ _ C hP _ hl => w_XT_rom_0 C hJ h hP va_S.rf hl)
def m_XM_setMaskAndFlags_69 (σ : tc_S) (k0 : Int32) : Option (tc_S) := (tc_gb k0 (some (tc_sf σ 6 k0)))
set_option maxHeartbeats 4000000 in
set_option maxRecDepth 100000 in
theorem w_XM_setMaskAndFlags_69 (C : tc_C p s m args meth c RXM cXM_setMaskAndFlags 2 none D cA) (hJ : ∀ σ, va_D A (tc_cW ad cA σ)) {q : tc_S} {σ : tc_S} {k0 : Int32} {H : Heap} {locs : List Loc} {ls : Array Slot} (h : m_XM_setMaskAndFlags_69 σ k0 = some q) (hP : va_P D vwCl (tc_cW ad cA σ) H) (hS : va_S A s.heap H locs) (hl : lv_has ls 2 []) : W p l e (tc_R 0) s m args below meth c H locs 0 0 (MQ below (tc_Qv D (tc_cW ad cA q) A) args s 0 0 A) (F0 m 69 ls [.int k0, .ref (ad 1)]) := by
  have C0 := C
  obtain ⟨hx, hb, hml, hown, ⟨hK, hN⟩, hr, hlk⟩ := C
  unfold m_XM_setMaskAndFlags_69 at h
  obtain ⟨hz, h⟩ := tc_gb_some h
  refine tc_cp6 C0 hJ hP hS (tc_use hN tw_242) hz dXM_setMaskAndFlags_69 (fun H locs hP hS => ?_)
  exact tc_crv C0 hP hS h dXM_setMaskAndFlags_72
def m_XM_setMaskAndFlags_54 (σ : tc_S) (l1 k0 : Int32) : Option (tc_S) := (tc_gb k0 (if (l1 &&& 1) = 0 then (m_XM_setMaskAndFlags_69 (tc_sf σ 5 k0) 0) else (m_XM_setMaskAndFlags_69 (tc_sf σ 5 k0) 1)))
set_option maxHeartbeats 4000000 in
set_option maxRecDepth 100000 in
theorem w_XM_setMaskAndFlags_54 (C : tc_C p s m args meth c RXM cXM_setMaskAndFlags 2 none D cA) (hJ : ∀ σ, va_D A (tc_cW ad cA σ)) {q : tc_S} {σ : tc_S} {l1 k0 : Int32} {H : Heap} {locs : List Loc} {ls : Array Slot} (h : m_XM_setMaskAndFlags_54 σ l1 k0 = some q) (hP : va_P D vwCl (tc_cW ad cA σ) H) (hS : va_S A s.heap H locs) (hl : lv_has ls 2 [(0, .ref (ad 1)), (1, .int l1)]) : W p l e (tc_R 0) s m args below meth c H locs 0 0 (MQ below (tc_Qv D (tc_cW ad cA q) A) args s 0 0 A) (F0 m 54 ls [.int k0, .ref (ad 1)]) := by
  have C0 := C
  obtain ⟨hx, hb, hml, hown, ⟨hK, hN⟩, hr, hlk⟩ := C
  unfold m_XM_setMaskAndFlags_54 at h
  obtain ⟨hz, h⟩ := tc_gb_some h
  refine tc_cp5 C0 hJ hP hS (tc_use hN tw_241) hz dXM_setMaskAndFlags_54 (fun H locs hP hS => ?_)
  refine lv_aload_n hx hb dXM_setMaskAndFlags_57 rfl (lv_at hl 0 rfl) ?_
  refine lv_iload_n hx hb dXM_setMaskAndFlags_58 rfl (lv_at hl 1 rfl) ?_
  refine lv_iconst (v := 1) hx hb dXM_setMaskAndFlags_59 (by decide) ?_
  refine lv_iand hx hb dXM_setMaskAndFlags_60 ?_
  refine lv_if_eq (tgt := 68) hx hb dXM_setMaskAndFlags_61 (by decide) (fun hc => ?_) (fun hc => ?_)
  · have h := tc_ip hc h
    refine lv_iconst (v := 0) hx hb dXM_setMaskAndFlags_68 (by decide) ?_
    exact w_XM_setMaskAndFlags_69 C0 hJ h hP hS (lv_sub hl [] rfl)
  · have h := tc_in hc h
    refine lv_iconst (v := 1) hx hb dXM_setMaskAndFlags_64 (by decide) ?_
    refine lv_goto (tgt := 69) hx hb dXM_setMaskAndFlags_65 (by decide) ?_
    exact w_XM_setMaskAndFlags_69 C0 hJ h hP hS (lv_sub hl [] rfl)
def m_XM_setMaskAndFlags_39 (σ : tc_S) (l1 k0 : Int32) : Option (tc_S) := (tc_gb k0 (if (l1 &&& 2) = 0 then (m_XM_setMaskAndFlags_54 (tc_sf σ 4 k0) l1 0) else (m_XM_setMaskAndFlags_54 (tc_sf σ 4 k0) l1 1)))
set_option maxHeartbeats 4000000 in
set_option maxRecDepth 100000 in
theorem w_XM_setMaskAndFlags_39 (C : tc_C p s m args meth c RXM cXM_setMaskAndFlags 2 none D cA) (hJ : ∀ σ, va_D A (tc_cW ad cA σ)) {q : tc_S} {σ : tc_S} {l1 k0 : Int32} {H : Heap} {locs : List Loc} {ls : Array Slot} (h : m_XM_setMaskAndFlags_39 σ l1 k0 = some q) (hP : va_P D vwCl (tc_cW ad cA σ) H) (hS : va_S A s.heap H locs) (hl : lv_has ls 2 [(0, .ref (ad 1)), (1, .int l1)]) : W p l e (tc_R 0) s m args below meth c H locs 0 0 (MQ below (tc_Qv D (tc_cW ad cA q) A) args s 0 0 A) (F0 m 39 ls [.int k0, .ref (ad 1)]) := by
  have C0 := C
  obtain ⟨hx, hb, hml, hown, ⟨hK, hN⟩, hr, hlk⟩ := C
  unfold m_XM_setMaskAndFlags_39 at h
  obtain ⟨hz, h⟩ := tc_gb_some h
  refine tc_cp4 C0 hJ hP hS (tc_use hN tw_240) hz dXM_setMaskAndFlags_39 (fun H locs hP hS => ?_)
  refine lv_aload_n hx hb dXM_setMaskAndFlags_42 rfl (lv_at hl 0 rfl) ?_
  refine lv_iload_n hx hb dXM_setMaskAndFlags_43 rfl (lv_at hl 1 rfl) ?_
  refine lv_iconst (v := 2) hx hb dXM_setMaskAndFlags_44 (by decide) ?_
  refine lv_iand hx hb dXM_setMaskAndFlags_45 ?_
  refine lv_if_eq (tgt := 53) hx hb dXM_setMaskAndFlags_46 (by decide) (fun hc => ?_) (fun hc => ?_)
  · have h := tc_ip hc h
    refine lv_iconst (v := 0) hx hb dXM_setMaskAndFlags_53 (by decide) ?_
    exact w_XM_setMaskAndFlags_54 C0 hJ h hP hS (lv_sub hl [0, 1] rfl)
  · have h := tc_in hc h
    refine lv_iconst (v := 1) hx hb dXM_setMaskAndFlags_49 (by decide) ?_
    refine lv_goto (tgt := 54) hx hb dXM_setMaskAndFlags_50 (by decide) ?_
    exact w_XM_setMaskAndFlags_54 C0 hJ h hP hS (lv_sub hl [0, 1] rfl)
def m_XM_setMaskAndFlags_24 (σ : tc_S) (l1 k0 : Int32) : Option (tc_S) := (tc_gb k0 (if (l1 &&& 4) = 0 then (m_XM_setMaskAndFlags_39 (tc_sf σ 3 k0) l1 0) else (m_XM_setMaskAndFlags_39 (tc_sf σ 3 k0) l1 1)))
set_option maxHeartbeats 4000000 in
set_option maxRecDepth 100000 in
theorem w_XM_setMaskAndFlags_24 (C : tc_C p s m args meth c RXM cXM_setMaskAndFlags 2 none D cA) (hJ : ∀ σ, va_D A (tc_cW ad cA σ)) {q : tc_S} {σ : tc_S} {l1 k0 : Int32} {H : Heap} {locs : List Loc} {ls : Array Slot} (h : m_XM_setMaskAndFlags_24 σ l1 k0 = some q) (hP : va_P D vwCl (tc_cW ad cA σ) H) (hS : va_S A s.heap H locs) (hl : lv_has ls 2 [(0, .ref (ad 1)), (1, .int l1)]) : W p l e (tc_R 0) s m args below meth c H locs 0 0 (MQ below (tc_Qv D (tc_cW ad cA q) A) args s 0 0 A) (F0 m 24 ls [.int k0, .ref (ad 1)]) := by
  have C0 := C
  obtain ⟨hx, hb, hml, hown, ⟨hK, hN⟩, hr, hlk⟩ := C
  unfold m_XM_setMaskAndFlags_24 at h
  obtain ⟨hz, h⟩ := tc_gb_some h
  refine tc_cp3 C0 hJ hP hS (tc_use hN tw_239) hz dXM_setMaskAndFlags_24 (fun H locs hP hS => ?_)
  refine lv_aload_n hx hb dXM_setMaskAndFlags_27 rfl (lv_at hl 0 rfl) ?_
  refine lv_iload_n hx hb dXM_setMaskAndFlags_28 rfl (lv_at hl 1 rfl) ?_
  refine lv_iconst (v := 4) hx hb dXM_setMaskAndFlags_29 (by decide) ?_
  refine lv_iand hx hb dXM_setMaskAndFlags_30 ?_
  refine lv_if_eq (tgt := 38) hx hb dXM_setMaskAndFlags_31 (by decide) (fun hc => ?_) (fun hc => ?_)
  · have h := tc_ip hc h
    refine lv_iconst (v := 0) hx hb dXM_setMaskAndFlags_38 (by decide) ?_
    exact w_XM_setMaskAndFlags_39 C0 hJ h hP hS (lv_sub hl [0, 1] rfl)
  · have h := tc_in hc h
    refine lv_iconst (v := 1) hx hb dXM_setMaskAndFlags_34 (by decide) ?_
    refine lv_goto (tgt := 39) hx hb dXM_setMaskAndFlags_35 (by decide) ?_
    exact w_XM_setMaskAndFlags_39 C0 hJ h hP hS (lv_sub hl [0, 1] rfl)
def m_XM_setMaskAndFlags (σ : tc_S) (l1 : Int32) : Option (tc_S) := (if (l1 &&& 8) = 0 then (m_XM_setMaskAndFlags_24 (tc_sf σ 2 ((l1 >>> ((8 : Int32) &&& 31)) &&& 7)) l1 0) else (m_XM_setMaskAndFlags_24 (tc_sf σ 2 ((l1 >>> ((8 : Int32) &&& 31)) &&& 7)) l1 1))
set_option maxHeartbeats 4000000 in
set_option maxRecDepth 100000 in
theorem w_XM_setMaskAndFlags_0 (C : tc_C p s m args meth c RXM cXM_setMaskAndFlags 2 none D cA) (hJ : ∀ σ, va_D A (tc_cW ad cA σ)) {q : tc_S} {σ : tc_S} {l1 : Int32} {H : Heap} {locs : List Loc} {ls : Array Slot} (h : m_XM_setMaskAndFlags σ l1 = some q) (hP : va_P D vwCl (tc_cW ad cA σ) H) (hS : va_S A s.heap H locs) (hl : lv_has ls 2 [(0, .ref (ad 1)), (1, .int l1)]) : W p l e (tc_R 0) s m args below meth c H locs 0 0 (MQ below (tc_Qv D (tc_cW ad cA q) A) args s 0 0 A) (F0 m 0 ls []) := by
  have C0 := C
  obtain ⟨hx, hb, hml, hown, ⟨hK, hN⟩, hr, hlk⟩ := C
  unfold m_XM_setMaskAndFlags at h
  refine lv_aload_n hx hb dXM_setMaskAndFlags_0 rfl (lv_at hl 0 rfl) ?_
  refine lv_iload_n hx hb dXM_setMaskAndFlags_1 rfl (lv_at hl 1 rfl) ?_
  refine lv_bipush (v := 8) hx hb dXM_setMaskAndFlags_2 (by decide) ?_
  refine lv_ishr hx hb dXM_setMaskAndFlags_4 ?_
  refine lv_bipush (v := 7) hx hb dXM_setMaskAndFlags_5 (by decide) ?_
  refine lv_iand hx hb dXM_setMaskAndFlags_7 ?_
  refine tc_cp2 C0 hJ hP hS (tc_use hN tw_237) dXM_setMaskAndFlags_8 (fun H locs hP hS => ?_)
  refine lv_aload_n hx hb dXM_setMaskAndFlags_11 rfl (lv_at hl 0 rfl) ?_
  refine lv_iload_n hx hb dXM_setMaskAndFlags_12 rfl (lv_at hl 1 rfl) ?_
  refine lv_bipush (v := 8) hx hb dXM_setMaskAndFlags_13 (by decide) ?_
  refine lv_iand hx hb dXM_setMaskAndFlags_15 ?_
  refine lv_if_eq (tgt := 23) hx hb dXM_setMaskAndFlags_16 (by decide) (fun hc => ?_) (fun hc => ?_)
  · have h := tc_ip hc h
    refine lv_iconst (v := 0) hx hb dXM_setMaskAndFlags_23 (by decide) ?_
    exact w_XM_setMaskAndFlags_24 C0 hJ h hP hS (lv_sub hl [0, 1] rfl)
  · have h := tc_in hc h
    refine lv_iconst (v := 1) hx hb dXM_setMaskAndFlags_19 (by decide) ?_
    refine lv_goto (tgt := 24) hx hb dXM_setMaskAndFlags_20 (by decide) ?_
    exact w_XM_setMaskAndFlags_24 C0 hJ h hP hS (lv_sub hl [0, 1] rfl)
theorem k_XM_setMaskAndFlags (hJ : ∀ σ, va_D A (tc_cW ad cA σ)) {σ : tc_S} {l1 : Int32} {q : tc_S} (h : m_XM_setMaskAndFlags σ l1 = some q) : Met l yXM_setMaskAndFlags [.code yXM_setMaskAndFlags cXM_setMaskAndFlags 2 none] (tc_R 0) (tc_Pc D cA (tc_cW ad cA σ) [.ref (ad 1), .int l1]) (tc_Qv D (tc_cW ad cA q) A) 0 0 A :=
  tc_met (by decide) (Nat.le_of_ble_eq_true rfl) (fun _ _ _ _ _ _ _ C hP _ hl => w_XM_setMaskAndFlags_0 C hJ h hP va_S.rf hl)
def m_XS_stands_19 (σ : tc_S) (k0 : Int32) : Option (Int32 × tc_S) := (tc_gb k0 (some (k0, σ)))
set_option maxHeartbeats 4000000 in
set_option maxRecDepth 100000 in
theorem w_XS_stands_19 (C : tc_C p s m args meth c RXS cXS_stands 1 (some .boolean) D cA) (hJ : ∀ σ, va_D A (tc_cW ad cA σ)) {q : Int32 × tc_S} {σ : tc_S} {k0 : Int32} {H : Heap} {locs : List Loc} {ls : Array Slot} (h : m_XS_stands_19 σ k0 = some q) (hP : va_P D vwCl (tc_cW ad cA σ) H) (hS : va_S A s.heap H locs) (hl : lv_has ls 1 []) : W p l e (tc_R 0) s m args below meth c H locs 0 0 (MQ below (tc_Qi D (tc_cW ad cA q.2) A q.1) args s 0 0 A) (F0 m 19 ls [.int k0]) := by
  have C0 := C
  obtain ⟨hx, hb, hml, hown, ⟨hK, hN⟩, hr, hlk⟩ := C
  unfold m_XS_stands_19 at h
  obtain ⟨hz, h⟩ := tc_gb_some h
  exact tc_crz C0 hP hS hz h dXS_stands_19
def m_XS_stands_14 (σ : tc_S) : Option (Int32 × tc_S) := (m_XS_stands_19 σ 1)
set_option maxHeartbeats 4000000 in
set_option maxRecDepth 100000 in
theorem w_XS_stands_14 (C : tc_C p s m args meth c RXS cXS_stands 1 (some .boolean) D cA) (hJ : ∀ σ, va_D A (tc_cW ad cA σ)) {q : Int32 × tc_S} {σ : tc_S} {H : Heap} {locs : List Loc} {ls : Array Slot} (h : m_XS_stands_14 σ = some q) (hP : va_P D vwCl (tc_cW ad cA σ) H) (hS : va_S A s.heap H locs) (hl : lv_has ls 1 []) : W p l e (tc_R 0) s m args below meth c H locs 0 0 (MQ below (tc_Qi D (tc_cW ad cA q.2) A q.1) args s 0 0 A) (F0 m 14 ls []) := by
  have C0 := C
  obtain ⟨hx, hb, hml, hown, ⟨hK, hN⟩, hr, hlk⟩ := C
  unfold m_XS_stands_14 at h
  refine lv_iconst (v := 1) hx hb dXS_stands_14 (by decide) ?_
  refine lv_goto (tgt := 19) hx hb dXS_stands_15 (by decide) ?_
  exact w_XS_stands_19 C0 hJ h hP hS (lv_sub hl [] rfl)
def m_XS_stands (σ : tc_S) : Option (Int32 × tc_S) := (if (tc_gf σ 15) = 0 then (if (tc_gf σ 16) = 0 then (m_XS_stands_19 σ 0) else (m_XS_stands_14 σ)) else (m_XS_stands_14 σ))
set_option maxHeartbeats 4000000 in
set_option maxRecDepth 100000 in
theorem w_XS_stands_0 (C : tc_C p s m args meth c RXS cXS_stands 1 (some .boolean) D cA) (hJ : ∀ σ, va_D A (tc_cW ad cA σ)) {q : Int32 × tc_S} {σ : tc_S} {H : Heap} {locs : List Loc} {ls : Array Slot} (h : m_XS_stands σ = some q) (hP : va_P D vwCl (tc_cW ad cA σ) H) (hS : va_S A s.heap H locs) (hl : lv_has ls 1 [(0, .ref (ad 2))]) : W p l e (tc_R 0) s m args below meth c H locs 0 0 (MQ below (tc_Qi D (tc_cW ad cA q.2) A q.1) args s 0 0 A) (F0 m 0 ls []) := by
  have C0 := C
  obtain ⟨hx, hb, hml, hown, ⟨hK, hN⟩, hr, hlk⟩ := C
  unfold m_XS_stands at h
  refine lv_aload_n hx hb dXS_stands_0 rfl (lv_at hl 0 rfl) ?_
  refine tc_cg15 C0 hP (tc_use hN tw_38) dXS_stands_1 ?_
  refine lv_if_ne (tgt := 14) hx hb dXS_stands_4 (by decide) (fun hc => ?_) (fun hc => ?_)
  · have h := tc_in hc h
    exact w_XS_stands_14 C0 hJ h hP hS (lv_sub hl [] rfl)
  · have h := tc_ip hc h
    refine lv_aload_n hx hb dXS_stands_7 rfl (lv_at hl 0 rfl) ?_
    refine tc_cg16 C0 hP (tc_use hN tw_40) dXS_stands_8 ?_
    refine lv_if_eq (tgt := 18) hx hb dXS_stands_11 (by decide) (fun hc => ?_) (fun hc => ?_)
    · have h := tc_ip hc h
      refine lv_iconst (v := 0) hx hb dXS_stands_18 (by decide) ?_
      exact w_XS_stands_19 C0 hJ h hP hS (lv_sub hl [] rfl)
    · have h := tc_in hc h
      exact w_XS_stands_14 C0 hJ h hP hS (lv_sub hl [] rfl)
theorem k_XS_stands (hJ : ∀ σ, va_D A (tc_cW ad cA σ)) {σ : tc_S} {q : Int32 × tc_S} (h : m_XS_stands σ = some q) : Met l yXS_stands [.code yXS_stands cXS_stands 1 (some .boolean)] (tc_R 0) (tc_Pc D cA (tc_cW ad cA σ) [.ref (ad 2)]) (tc_Qi D (tc_cW ad cA q.2) A q.1) 0 0 A :=
  tc_met (by decide) (Nat.le_of_ble_eq_true rfl) (fun _ _ _ _ _ _ _ C hP _ hl => w_XS_stands_0 C hJ h hP va_S.rf hl)
def m_XU_readQuietly_10 (σ : tc_S) : Option (Int32 × tc_S) := (some (0, σ))
set_option maxHeartbeats 4000000 in
set_option maxRecDepth 100000 in
theorem w_XU_readQuietly_10 (C : tc_C p s m args meth c RXU cXU_readQuietly 2 (some .int) D cA) (hJ : ∀ σ, va_D A (tc_cW ad cA σ)) {q : Int32 × tc_S} {σ : tc_S} {H : Heap} {locs : List Loc} {ls : Array Slot} (h : m_XU_readQuietly_10 σ = some q) (hP : va_P D vwCl (tc_cW ad cA σ) H) (hS : va_S A s.heap H locs) (hl : lv_has ls 2 []) : W p l e (tc_R 1) s m args below meth c H locs 0 0 (MQ below (tc_Qi D (tc_cW ad cA q.2) A q.1) args s 0 0 A) (F0 m 10 ls []) := by
  have C0 := C
  obtain ⟨hx, hb, hml, hown, ⟨hK, hN⟩, hr, hlk⟩ := C
  unfold m_XU_readQuietly_10 at h
  refine lv_iconst (v := 0) hx hb dXU_readQuietly_10 (by decide) ?_
  exact tc_cri C0 hP hS h dXU_readQuietly_11
def m_XU_readQuietly_90 (σ : tc_S) : Option (Int32 × tc_S) := (some (0, σ))
set_option maxHeartbeats 4000000 in
set_option maxRecDepth 100000 in
theorem w_XU_readQuietly_90 (C : tc_C p s m args meth c RXU cXU_readQuietly 2 (some .int) D cA) (hJ : ∀ σ, va_D A (tc_cW ad cA σ)) {q : Int32 × tc_S} {σ : tc_S} {H : Heap} {locs : List Loc} {ls : Array Slot} (h : m_XU_readQuietly_90 σ = some q) (hP : va_P D vwCl (tc_cW ad cA σ) H) (hS : va_S A s.heap H locs) (hl : lv_has ls 2 []) : W p l e (tc_R 1) s m args below meth c H locs 0 0 (MQ below (tc_Qi D (tc_cW ad cA q.2) A q.1) args s 0 0 A) (F0 m 90 ls []) := by
  have C0 := C
  obtain ⟨hx, hb, hml, hown, ⟨hK, hN⟩, hr, hlk⟩ := C
  unfold m_XU_readQuietly_90 at h
  refine lv_iconst (v := 0) hx hb dXU_readQuietly_90 (by decide) ?_
  exact tc_cri C0 hP hS h dXU_readQuietly_91
def m_XU_readQuietly (σ : tc_S) (l1 : Int32) : Option (Int32 × tc_S) := (if (l1 &&& 1) = 0 then (if 0 ≤ l1 then (if 512 ≤ l1 then (if 640 ≤ l1 then (if l1 < 768 then (m_XU_readQuietly_90 σ) else (if 896 ≤ l1 then (m_XU_readQuietly_90 σ) else ((m_XS_stands σ).bind (fun q66 => (if q66.1 = 0 then (m_XU_readQuietly_90 q66.2) else (tc_gd (l1 - 768) 128 (some (((tc_ga q66.2 1 (l1 - 768)) * 257), q66.2)))))))) else (tc_gd ((l1 - 512) >>> ((1 : Int32) &&& 31)) 64 (some ((tc_ga σ 8 ((l1 - 512) >>> ((1 : Int32) &&& 31))), σ)))) else (tc_gd (l1 >>> ((1 : Int32) &&& 31)) 256 (some ((tc_ga σ 7 (l1 >>> ((1 : Int32) &&& 31))), σ)))) else (m_XU_readQuietly_10 σ)) else (m_XU_readQuietly_10 σ))
set_option maxHeartbeats 4000000 in
set_option maxRecDepth 100000 in
theorem w_XU_readQuietly_0 (C : tc_C p s m args meth c RXU cXU_readQuietly 2 (some .int) D cA) (hJ : ∀ σ, va_D A (tc_cW ad cA σ)) {q : Int32 × tc_S} {σ : tc_S} {l1 : Int32} {H : Heap} {locs : List Loc} {ls : Array Slot} (h : m_XU_readQuietly σ l1 = some q) (hP : va_P D vwCl (tc_cW ad cA σ) H) (hS : va_S A s.heap H locs) (hl : lv_has ls 2 [(0, .ref (ad 6)), (1, .int l1)]) : W p l e (tc_R 1) s m args below meth c H locs 0 0 (MQ below (tc_Qi D (tc_cW ad cA q.2) A q.1) args s 0 0 A) (F0 m 0 ls []) := by
  have C0 := C
  obtain ⟨hx, hb, hml, hown, ⟨hK, hN⟩, hr, hlk⟩ := C
  unfold m_XU_readQuietly at h
  refine lv_iload_n hx hb dXU_readQuietly_0 rfl (lv_at hl 1 rfl) ?_
  refine lv_iconst (v := 1) hx hb dXU_readQuietly_1 (by decide) ?_
  refine lv_iand hx hb dXU_readQuietly_2 ?_
  refine lv_if_ne (tgt := 10) hx hb dXU_readQuietly_3 (by decide) (fun hc => ?_) (fun hc => ?_)
  · have h := tc_in hc h
    exact w_XU_readQuietly_10 C0 hJ h hP hS (lv_sub hl [] rfl)
  · have h := tc_ip hc h
    refine lv_iload_n hx hb dXU_readQuietly_6 rfl (lv_at hl 1 rfl) ?_
    refine lv_if_ge (tgt := 12) hx hb dXU_readQuietly_7 (by decide) (fun hc => ?_) (fun hc => ?_)
    · have h := tc_ip hc h
      refine lv_iload_n hx hb dXU_readQuietly_12 rfl (lv_at hl 1 rfl) ?_
      refine lv_sipush (v := 512) hx hb dXU_readQuietly_13 (by decide) ?_
      refine lv_icmp_ge (tgt := 28) hx hb dXU_readQuietly_16 (by decide) (fun hc => ?_) (fun hc => ?_)
      · have h := tc_ip hc h
        refine lv_iload_n hx hb dXU_readQuietly_28 rfl (lv_at hl 1 rfl) ?_
        refine lv_sipush (v := 640) hx hb dXU_readQuietly_29 (by decide) ?_
        refine lv_icmp_ge (tgt := 48) hx hb dXU_readQuietly_32 (by decide) (fun hc => ?_) (fun hc => ?_)
        · have h := tc_ip hc h
          refine lv_iload_n hx hb dXU_readQuietly_48 rfl (lv_at hl 1 rfl) ?_
          refine lv_sipush (v := 768) hx hb dXU_readQuietly_49 (by decide) ?_
          refine lv_icmp_lt (tgt := 90) hx hb dXU_readQuietly_52 (by decide) (fun hc => ?_) (fun hc => ?_)
          · have h := tc_ip hc h
            exact w_XU_readQuietly_90 C0 hJ h hP hS (lv_sub hl [] rfl)
          · have h := tc_in hc h
            refine lv_iload_n hx hb dXU_readQuietly_55 rfl (lv_at hl 1 rfl) ?_
            refine lv_sipush (v := 896) hx hb dXU_readQuietly_56 (by decide) ?_
            refine lv_icmp_ge (tgt := 90) hx hb dXU_readQuietly_59 (by decide) (fun hc => ?_) (fun hc => ?_)
            · have h := tc_ip hc h
              exact w_XU_readQuietly_90 C0 hJ h hP hS (lv_sub hl [] rfl)
            · have h := tc_in hc h
              refine lv_aload_n hx hb dXU_readQuietly_62 rfl (lv_at hl 0 rfl) ?_
              refine tc_cr_XU_second C0 hP (tc_use hN tw_200) dXU_readQuietly_63 ?_
              obtain ⟨q66, e66, h⟩ := tc_bd_some h
              refine tc_cVi (As := []) (rest := []) C0 (k_XS_stands hJ e66) tv_XU_32 (by decide) (by decide) hP hS hl 2 rfl rfl (Nat.le_of_ble_eq_true rfl) dXU_readQuietly_66 rfl (fun H locs hP hS => ?_)
              refine lv_if_eq (tgt := 90) hx hb dXU_readQuietly_69 (by decide) (fun hc => ?_) (fun hc => ?_)
              · have h := tc_ip hc h
                exact w_XU_readQuietly_90 C0 hJ h hP hS (lv_sub hl [] rfl)
              · have h := tc_in hc h
                refine lv_aload_n hx hb dXU_readQuietly_72 rfl (lv_at hl 0 rfl) ?_
                refine tc_cr_XU_second C0 hP (tc_use hN tw_200) dXU_readQuietly_73 ?_
                refine tc_crN_XS_ram C0 hP (tc_use hN tw_25) dXU_readQuietly_76 ?_
                refine lv_iload_n hx hb dXU_readQuietly_79 rfl (lv_at hl 1 rfl) ?_
                refine lv_sipush (v := 768) hx hb dXU_readQuietly_80 (by decide) ?_
                refine lv_isub hx hb dXU_readQuietly_83 ?_
                obtain ⟨hi, h⟩ := tc_gd_some h
                refine tc_cld10 C0 hP hi dXU_readQuietly_84 ?_
                refine lv_sipush (v := 257) hx hb dXU_readQuietly_85 (by decide) ?_
                refine lv_imul hx hb dXU_readQuietly_88 ?_
                exact tc_cri C0 hP hS h dXU_readQuietly_89
        · have h := tc_in hc h
          refine lv_aload_n hx hb dXU_readQuietly_35 rfl (lv_at hl 0 rfl) ?_
          refine tc_cr_XU_ram C0 hP (tc_use hN tw_199) dXU_readQuietly_36 ?_
          refine lv_iload_n hx hb dXU_readQuietly_39 rfl (lv_at hl 1 rfl) ?_
          refine lv_sipush (v := 512) hx hb dXU_readQuietly_40 (by decide) ?_
          refine lv_isub hx hb dXU_readQuietly_43 ?_
          refine lv_iconst (v := 1) hx hb dXU_readQuietly_44 (by decide) ?_
          refine lv_ishr hx hb dXU_readQuietly_45 ?_
          obtain ⟨hi, h⟩ := tc_gd_some h
          refine tc_cld8 C0 hP hi dXU_readQuietly_46 ?_
          exact tc_cri C0 hP hS h dXU_readQuietly_47
      · have h := tc_in hc h
        refine lv_aload_n hx hb dXU_readQuietly_19 rfl (lv_at hl 0 rfl) ?_
        refine tc_cr_XU_romWords C0 hP (tc_use hN tw_198) dXU_readQuietly_20 ?_
        refine lv_iload_n hx hb dXU_readQuietly_23 rfl (lv_at hl 1 rfl) ?_
        refine lv_iconst (v := 1) hx hb dXU_readQuietly_24 (by decide) ?_
        refine lv_ishr hx hb dXU_readQuietly_25 ?_
        obtain ⟨hi, h⟩ := tc_gd_some h
        refine tc_cld7 C0 hP hi dXU_readQuietly_26 ?_
        exact tc_cri C0 hP hS h dXU_readQuietly_27
    · have h := tc_in hc h
      exact w_XU_readQuietly_10 C0 hJ h hP hS (lv_sub hl [] rfl)
theorem k_XU_readQuietly (hJ : ∀ σ, va_D A (tc_cW ad cA σ)) {σ : tc_S} {l1 : Int32} {q : Int32 × tc_S} (h : m_XU_readQuietly σ l1 = some q) : Met l yXU_readQuietly [.code yXU_readQuietly cXU_readQuietly 2 (some .int)] (tc_R 1) (tc_Pc D cA (tc_cW ad cA σ) [.ref (ad 6), .int l1]) (tc_Qi D (tc_cW ad cA q.2) A q.1) 0 0 A :=
  tc_met (by decide) (Nat.le_of_ble_eq_true rfl) (fun _ _ _ _ _ _ _ C hP _ hl => w_XU_readQuietly_0 C hJ h hP va_S.rf hl)
def m_XM_startAgain_2 : Nat → tc_S → Int32 → Option (tc_S)
  | 0, _, _ => none
  | n + 1, σ, l1 => (if 8 ≤ l1 then ((m_XM_setMaskAndFlags σ 1792).bind (fun q28 => ((m_XU_readQuietly q28 2).bind (fun q37 => ((m_XU_readQuietly (tc_sf q37.2 0 q37.1) 6).bind (fun q50 => (some (tc_sf (tc_sf q50.2 1 q50.1) 7 0)))))))) else (tc_gd l1 8 (m_XM_startAgain_2 n (tc_sa σ 0 l1 0) (l1 + 1))))
set_option maxHeartbeats 4000000 in
set_option maxRecDepth 100000 in
theorem w_XM_startAgain_2 (C : tc_C p s m args meth c RXM cXM_startAgain 2 none D cA) (hJ : ∀ σ, va_D A (tc_cW ad cA σ)) {q : tc_S} : ∀ (n : Nat) {σ : tc_S} {l1 : Int32} {H : Heap} {locs : List Loc} {ls : Array Slot} (h : m_XM_startAgain_2 n σ l1 = some q) (hP : va_P D vwCl (tc_cW ad cA σ) H) (hS : va_S A s.heap H locs) (hl : lv_has ls 2 [(0, .ref (ad 1)), (1, .int l1)]), W p l e (tc_R 2) s m args below meth c H locs 0 0 (MQ below (tc_Qv D (tc_cW ad cA q) A) args s 0 0 A) (F0 m 2 ls []) := by
  have C0 := C
  obtain ⟨hx, hb, hml, hown, ⟨hK, hN⟩, hr, hlk⟩ := C
  intro n
  induction n with
  | zero =>
    intro σ l1 H locs ls h hP hS hl
    exact absurd h (by simp [m_XM_startAgain_2])
  | succ n ih =>
    intro σ l1 H locs ls h hP hS hl
    unfold m_XM_startAgain_2 at h
    refine lv_iload_n hx hb dXM_startAgain_2 rfl (lv_at hl 1 rfl) ?_
    refine lv_aload_n hx hb dXM_startAgain_3 rfl (lv_at hl 0 rfl) ?_
    refine tc_cr_XM_d C0 hP (tc_use hN tw_231) dXM_startAgain_4 ?_
    refine tc_cal9 C0 hP dXM_startAgain_7 ?_
    refine lv_icmp_ge (tgt := 24) hx hb dXM_startAgain_8 (by decide) (fun hc => ?_) (fun hc => ?_)
    · have h := tc_ip hc h
      refine lv_aload_n hx hb dXM_startAgain_24 rfl (lv_at hl 0 rfl) ?_
      refine lv_sipush (v := 1792) hx hb dXM_startAgain_25 (by decide) ?_
      obtain ⟨q28, e28, h⟩ := tc_bd_some h
      refine tc_cVv (As := [.int 1792]) (rest := []) C0 (k_XM_setMaskAndFlags hJ e28) tv_XM_17 (by decide) (by decide) hP hS hl 1 rfl rfl (Nat.le_of_ble_eq_true rfl) dXM_startAgain_28 rfl (fun H locs hP hS => ?_)
      refine lv_aload_n hx hb dXM_startAgain_31 rfl (lv_at hl 0 rfl) ?_
      refine lv_aload_n hx hb dXM_startAgain_32 rfl (lv_at hl 0 rfl) ?_
      refine tc_cr_XM_bus C0 hP (tc_use hN tw_230) dXM_startAgain_33 ?_
      refine lv_iconst (v := 2) hx hb dXM_startAgain_36 (by decide) ?_
      obtain ⟨q37, e37, h⟩ := tc_bd_some h
      refine tc_cVi (As := [.int 2]) (rest := [.ref (ad 1)]) C0 (k_XU_readQuietly hJ e37) tv_XM_21 (by decide) (by decide) hP hS hl 6 rfl rfl (Nat.le_of_ble_eq_true rfl) dXM_startAgain_37 rfl (fun H locs hP hS => ?_)
      refine tc_cp0 C0 hJ hP hS (tc_use hN tw_233) dXM_startAgain_40 (fun H locs hP hS => ?_)
      refine lv_aload_n hx hb dXM_startAgain_43 rfl (lv_at hl 0 rfl) ?_
      refine lv_aload_n hx hb dXM_startAgain_44 rfl (lv_at hl 0 rfl) ?_
      refine tc_cr_XM_bus C0 hP (tc_use hN tw_230) dXM_startAgain_45 ?_
      refine lv_bipush (v := 6) hx hb dXM_startAgain_48 (by decide) ?_
      obtain ⟨q50, e50, h⟩ := tc_bd_some h
      refine tc_cVi (As := [.int 6]) (rest := [.ref (ad 1)]) C0 (k_XU_readQuietly hJ e50) tv_XM_21 (by decide) (by decide) hP hS hl 6 rfl rfl (Nat.le_of_ble_eq_true rfl) dXM_startAgain_50 rfl (fun H locs hP hS => ?_)
      refine tc_cp1 C0 hJ hP hS (tc_use hN tw_235) dXM_startAgain_53 (fun H locs hP hS => ?_)
      refine lv_aload_n hx hb dXM_startAgain_56 rfl (lv_at hl 0 rfl) ?_
      refine lv_iconst (v := 0) hx hb dXM_startAgain_57 (by decide) ?_
      refine tc_cp7 C0 hJ hP hS (tc_use hN tw_243) ⟨by decide, by decide⟩ dXM_startAgain_58 (fun H locs hP hS => ?_)
      exact tc_crv C0 hP hS h dXM_startAgain_61
    · have h := tc_in hc h
      refine lv_aload_n hx hb dXM_startAgain_11 rfl (lv_at hl 0 rfl) ?_
      refine tc_cr_XM_d C0 hP (tc_use hN tw_231) dXM_startAgain_12 ?_
      refine lv_iload_n hx hb dXM_startAgain_15 rfl (lv_at hl 1 rfl) ?_
      refine lv_iconst (v := 0) hx hb dXM_startAgain_16 (by decide) ?_
      obtain ⟨hi, h⟩ := tc_gd_some h
      refine tc_cst9 C0 hJ hP hS hi dXM_startAgain_17 (fun H locs hP hS => ?_)
      refine lv_iinc (k := 1) (v := (l1 + 1)) (lv' := [(1, .int (l1 + 1)), (0, .ref (ad 1))]) hx hb dXM_startAgain_18 hl rfl rfl (by decide) rfl (fun ls hl => ?_)
      refine lv_goto (tgt := 2) hx hb dXM_startAgain_21 (by decide) ?_
      exact ih h hP hS (lv_sub hl [1, 0] rfl)
def m_XM_startAgain (σ : tc_S) : Option (tc_S) := (m_XM_startAgain_2 2000 σ 0)
set_option maxHeartbeats 4000000 in
set_option maxRecDepth 100000 in
theorem w_XM_startAgain_0 (C : tc_C p s m args meth c RXM cXM_startAgain 2 none D cA) (hJ : ∀ σ, va_D A (tc_cW ad cA σ)) {q : tc_S} {σ : tc_S} {H : Heap} {locs : List Loc} {ls : Array Slot} (h : m_XM_startAgain σ = some q) (hP : va_P D vwCl (tc_cW ad cA σ) H) (hS : va_S A s.heap H locs) (hl : lv_has ls 2 [(0, .ref (ad 1))]) : W p l e (tc_R 2) s m args below meth c H locs 0 0 (MQ below (tc_Qv D (tc_cW ad cA q) A) args s 0 0 A) (F0 m 0 ls []) := by
  have C0 := C
  obtain ⟨hx, hb, hml, hown, ⟨hK, hN⟩, hr, hlk⟩ := C
  unfold m_XM_startAgain at h
  refine lv_iconst (v := 0) hx hb dXM_startAgain_0 (by decide) ?_
  refine lv_istore_n (lv' := [(1, .int 0), (0, .ref (ad 1))]) hx hb dXM_startAgain_1 rfl hl (by decide) rfl (fun ls hl => ?_)
  exact w_XM_startAgain_2 C0 hJ _ h hP hS (lv_sub hl [1, 0] rfl)
theorem k_XM_startAgain (hJ : ∀ σ, va_D A (tc_cW ad cA σ)) {σ : tc_S} {q : tc_S} (h : m_XM_startAgain σ = some q) : Met l yXM_startAgain [.code yXM_startAgain cXM_startAgain 2 none] (tc_R 2) (tc_Pc D cA (tc_cW ad cA σ) [.ref (ad 1)]) (tc_Qv D (tc_cW ad cA q) A) 0 0 A :=
  tc_met (by decide) (Nat.le_of_ble_eq_true rfl) (fun _ _ _ _ _ _ _ C hP _ hl => w_XM_startAgain_0 C hJ h hP va_S.rf hl)
def m_XT_reset (σ : tc_S) : Option (tc_S) := ((m_XM_startAgain σ).bind (fun q4 => (some q4)))
set_option maxHeartbeats 4000000 in
set_option maxRecDepth 100000 in
theorem w_XT_reset_0 (C : tc_C p s m args meth c RXT cXT_reset 1 none D cA) (hJ : ∀ σ, va_D A (tc_cW ad cA σ)) {q : tc_S} {σ : tc_S} {H : Heap} {locs : List Loc} {ls : Array Slot} (h : m_XT_reset σ = some q) (hP : va_P D vwCl (tc_cW ad cA σ) H) (hS : va_S A s.heap H locs) (hl : lv_has ls 1 [(0, .ref (ad 0))]) : W p l e (tc_R 3) s m args below meth c H locs 0 0 (MQ below (tc_Qv D (tc_cW ad cA q) A) args s 0 0 A) (F0 m 0 ls []) := by
  have C0 := C
  obtain ⟨hx, hb, hml, hown, ⟨hK, hN⟩, hr, hlk⟩ := C
  unfold m_XT_reset at h
  refine lv_aload_n hx hb dXT_reset_0 rfl (lv_at hl 0 rfl) ?_
  refine tc_cr_XT_main C0 hP (tc_use hN tw_272) dXT_reset_1 ?_
  obtain ⟨q4, e4, h⟩ := tc_bd_some h
  refine tc_cVv (As := []) (rest := []) C0 (k_XM_startAgain hJ e4) tv_XT_66 (by decide) (by decide) hP hS hl 1 rfl rfl (Nat.le_of_ble_eq_true rfl) dXT_reset_4 rfl (fun H locs hP hS => ?_)
  exact tc_crv C0 hP hS h dXT_reset_7
theorem k_XT_reset (hJ : ∀ σ, va_D A (tc_cW ad cA σ)) {σ : tc_S} {q : tc_S} (h : m_XT_reset σ = some q) : Met l yXT_reset [.code yXT_reset cXT_reset 1 none] (tc_R 3) (tc_Pc D cA (tc_cW ad cA σ) [.ref (ad 0)]) (tc_Qv D (tc_cW ad cA q) A) 0 0 A :=
  tc_met (by decide) (Nat.le_of_ble_eq_true rfl) (fun _ _ _ _ _ _ _ C hP _ hl => w_XT_reset_0 C hJ h hP va_S.rf hl)
def m_XT_pad (σ : tc_S) (l1 : Int32) : Option (tc_S) := (some (tc_sf σ 32 (l1 &&& 255)))
set_option maxHeartbeats 4000000 in
set_option maxRecDepth 100000 in
theorem w_XT_pad_0 (C : tc_C p s m args meth c RXT cXT_pad 2 none D cA) (hJ : ∀ σ, va_D A (tc_cW ad cA σ)) {q : tc_S} {σ : tc_S} {l1 : Int32} {H : Heap} {locs : List Loc} {ls : Array Slot} (h : m_XT_pad σ l1 = some q) (hP : va_P D vwCl (tc_cW ad cA σ) H) (hS : va_S A s.heap H locs) (hl : lv_has ls 2 [(0, .ref (ad 0)), (1, .int l1)]) : W p l e (tc_R 0) s m args below meth c H locs 0 0 (MQ below (tc_Qv D (tc_cW ad cA q) A) args s 0 0 A) (F0 m 0 ls []) := by
  have C0 := C
  obtain ⟨hx, hb, hml, hown, ⟨hK, hN⟩, hr, hlk⟩ := C
  unfold m_XT_pad at h
  refine lv_aload_n hx hb dXT_pad_0 rfl (lv_at hl 0 rfl) ?_
  refine tc_cr_XT_bus C0 hP (tc_use hN tw_271) dXT_pad_1 ?_
  refine lv_iload_n hx hb dXT_pad_4 rfl (lv_at hl 1 rfl) ?_
  refine lv_sipush (v := 255) hx hb dXT_pad_5 (by decide) ?_
  refine lv_iand hx hb dXT_pad_8 ?_
  refine tc_cpN32 C0 hJ hP hS (tc_use hN tw_204) dXT_pad_9 (fun H locs hP hS => ?_)
  exact tc_crv C0 hP hS h dXT_pad_12
theorem k_XT_pad (hJ : ∀ σ, va_D A (tc_cW ad cA σ)) {σ : tc_S} {l1 : Int32} {q : tc_S} (h : m_XT_pad σ l1 = some q) : Met l yXT_pad [.code yXT_pad cXT_pad 2 none] (tc_R 0) (tc_Pc D cA (tc_cW ad cA σ) [.ref (ad 0), .int l1]) (tc_Qv D (tc_cW ad cA q) A) 0 0 A :=
  tc_met (by decide) (Nat.le_of_ble_eq_true rfl) (fun _ _ _ _ _ _ _ C hP _ hl => w_XT_pad_0 C hJ h hP va_S.rf hl)
def m_XB_highestPending_33 (σ : tc_S) (k0 : Int32) : Option (Int32 × tc_S) := (some (k0, σ))
set_option maxHeartbeats 4000000 in
set_option maxRecDepth 100000 in
theorem w_XB_highestPending_33 (C : tc_C p s m args meth c RXB cXB_highestPending 2 (some .int) D cA) (hJ : ∀ σ, va_D A (tc_cW ad cA σ)) {q : Int32 × tc_S} {σ : tc_S} {k0 : Int32} {H : Heap} {locs : List Loc} {ls : Array Slot} (h : m_XB_highestPending_33 σ k0 = some q) (hP : va_P D vwCl (tc_cW ad cA σ) H) (hS : va_S A s.heap H locs) (hl : lv_has ls 2 []) : W p l e (tc_R 0) s m args below meth c H locs 0 0 (MQ below (tc_Qi D (tc_cW ad cA q.2) A q.1) args s 0 0 A) (F0 m 33 ls [.int k0]) := by
  have C0 := C
  obtain ⟨hx, hb, hml, hown, ⟨hK, hN⟩, hr, hlk⟩ := C
  unfold m_XB_highestPending_33 at h
  exact tc_cri C0 hP hS h dXB_highestPending_33
def m_XB_highestPending_32 (σ : tc_S) : Option (Int32 × tc_S) := (m_XB_highestPending_33 σ 0)
set_option maxHeartbeats 4000000 in
set_option maxRecDepth 100000 in
theorem w_XB_highestPending_32 (C : tc_C p s m args meth c RXB cXB_highestPending 2 (some .int) D cA) (hJ : ∀ σ, va_D A (tc_cW ad cA σ)) {q : Int32 × tc_S} {σ : tc_S} {H : Heap} {locs : List Loc} {ls : Array Slot} (h : m_XB_highestPending_32 σ = some q) (hP : va_P D vwCl (tc_cW ad cA σ) H) (hS : va_S A s.heap H locs) (hl : lv_has ls 2 []) : W p l e (tc_R 0) s m args below meth c H locs 0 0 (MQ below (tc_Qi D (tc_cW ad cA q.2) A q.1) args s 0 0 A) (F0 m 32 ls []) := by
  have C0 := C
  obtain ⟨hx, hb, hml, hown, ⟨hK, hN⟩, hr, hlk⟩ := C
  unfold m_XB_highestPending_32 at h
  refine lv_iconst (v := 0) hx hb dXB_highestPending_32 (by decide) ?_
  exact w_XB_highestPending_33 C0 hJ h hP hS (lv_sub hl [] rfl)
def m_XB_highestPending_16 (σ : tc_S) (l1 : Int32) : Option (Int32 × tc_S) := (if (tc_gf σ 30) = 0 then (m_XB_highestPending_32 σ) else (if 4 ≤ l1 then (m_XB_highestPending_32 σ) else (m_XB_highestPending_33 σ 4)))
set_option maxHeartbeats 4000000 in
set_option maxRecDepth 100000 in
theorem w_XB_highestPending_16 (C : tc_C p s m args meth c RXB cXB_highestPending 2 (some .int) D cA) (hJ : ∀ σ, va_D A (tc_cW ad cA σ)) {q : Int32 × tc_S} {σ : tc_S} {l1 : Int32} {H : Heap} {locs : List Loc} {ls : Array Slot} (h : m_XB_highestPending_16 σ l1 = some q) (hP : va_P D vwCl (tc_cW ad cA σ) H) (hS : va_S A s.heap H locs) (hl : lv_has ls 2 [(0, .ref (ad 4)), (1, .int l1)]) : W p l e (tc_R 0) s m args below meth c H locs 0 0 (MQ below (tc_Qi D (tc_cW ad cA q.2) A q.1) args s 0 0 A) (F0 m 16 ls []) := by
  have C0 := C
  obtain ⟨hx, hb, hml, hown, ⟨hK, hN⟩, hr, hlk⟩ := C
  unfold m_XB_highestPending_16 at h
  refine lv_aload_n hx hb dXB_highestPending_16 rfl (lv_at hl 0 rfl) ?_
  refine tc_cg30 C0 hP (tc_use hN tw_170) dXB_highestPending_17 ?_
  refine lv_if_eq (tgt := 32) hx hb dXB_highestPending_20 (by decide) (fun hc => ?_) (fun hc => ?_)
  · have h := tc_ip hc h
    exact w_XB_highestPending_32 C0 hJ h hP hS (lv_sub hl [] rfl)
  · have h := tc_in hc h
    refine lv_iload_n hx hb dXB_highestPending_23 rfl (lv_at hl 1 rfl) ?_
    refine lv_iconst (v := 4) hx hb dXB_highestPending_24 (by decide) ?_
    refine lv_icmp_ge (tgt := 32) hx hb dXB_highestPending_25 (by decide) (fun hc => ?_) (fun hc => ?_)
    · have h := tc_ip hc h
      exact w_XB_highestPending_32 C0 hJ h hP hS (lv_sub hl [] rfl)
    · have h := tc_in hc h
      refine lv_iconst (v := 4) hx hb dXB_highestPending_28 (by decide) ?_
      refine lv_goto (tgt := 33) hx hb dXB_highestPending_29 (by decide) ?_
      exact w_XB_highestPending_33 C0 hJ h hP hS (lv_sub hl [] rfl)
def m_XB_highestPending (σ : tc_S) (l1 : Int32) : Option (Int32 × tc_S) := (if (tc_gf σ 31) = 0 then (m_XB_highestPending_16 σ l1) else (if 6 ≤ l1 then (m_XB_highestPending_16 σ l1) else (some (6, σ))))
set_option maxHeartbeats 4000000 in
set_option maxRecDepth 100000 in
theorem w_XB_highestPending_0 (C : tc_C p s m args meth c RXB cXB_highestPending 2 (some .int) D cA) (hJ : ∀ σ, va_D A (tc_cW ad cA σ)) {q : Int32 × tc_S} {σ : tc_S} {l1 : Int32} {H : Heap} {locs : List Loc} {ls : Array Slot} (h : m_XB_highestPending σ l1 = some q) (hP : va_P D vwCl (tc_cW ad cA σ) H) (hS : va_S A s.heap H locs) (hl : lv_has ls 2 [(0, .ref (ad 4)), (1, .int l1)]) : W p l e (tc_R 0) s m args below meth c H locs 0 0 (MQ below (tc_Qi D (tc_cW ad cA q.2) A q.1) args s 0 0 A) (F0 m 0 ls []) := by
  have C0 := C
  obtain ⟨hx, hb, hml, hown, ⟨hK, hN⟩, hr, hlk⟩ := C
  unfold m_XB_highestPending at h
  refine lv_aload_n hx hb dXB_highestPending_0 rfl (lv_at hl 0 rfl) ?_
  refine tc_cg31 C0 hP (tc_use hN tw_172) dXB_highestPending_1 ?_
  refine lv_if_eq (tgt := 16) hx hb dXB_highestPending_4 (by decide) (fun hc => ?_) (fun hc => ?_)
  · have h := tc_ip hc h
    exact w_XB_highestPending_16 C0 hJ h hP hS (lv_sub hl [0, 1] rfl)
  · have h := tc_in hc h
    refine lv_iload_n hx hb dXB_highestPending_7 rfl (lv_at hl 1 rfl) ?_
    refine lv_bipush (v := 6) hx hb dXB_highestPending_8 (by decide) ?_
    refine lv_icmp_ge (tgt := 16) hx hb dXB_highestPending_10 (by decide) (fun hc => ?_) (fun hc => ?_)
    · have h := tc_ip hc h
      exact w_XB_highestPending_16 C0 hJ h hP hS (lv_sub hl [0, 1] rfl)
    · have h := tc_in hc h
      refine lv_bipush (v := 6) hx hb dXB_highestPending_13 (by decide) ?_
      exact tc_cri C0 hP hS h dXB_highestPending_15
theorem k_XB_highestPending (hJ : ∀ σ, va_D A (tc_cW ad cA σ)) {σ : tc_S} {l1 : Int32} {q : Int32 × tc_S} (h : m_XB_highestPending σ l1 = some q) : Met l yXB_highestPending [.code yXB_highestPending cXB_highestPending 2 (some .int)] (tc_R 0) (tc_Pc D cA (tc_cW ad cA σ) [.ref (ad 4), .int l1]) (tc_Qi D (tc_cW ad cA q.2) A q.1) 0 0 A :=
  tc_met (by decide) (Nat.le_of_ble_eq_true rfl) (fun _ _ _ _ _ _ _ C hP _ hl => w_XB_highestPending_0 C hJ h hP va_S.rf hl)
def m_XP_movesFromMemory_12 (σ : tc_S) (k0 : Int32) : Option (Int32 × tc_S) := (tc_gb k0 (some (k0, σ)))
set_option maxHeartbeats 4000000 in
set_option maxRecDepth 100000 in
theorem w_XP_movesFromMemory_12 (C : tc_C p s m args meth c RXP cXP_movesFromMemory 1 (some .boolean) D cA) (hJ : ∀ σ, va_D A (tc_cW ad cA σ)) {q : Int32 × tc_S} {σ : tc_S} {k0 : Int32} {H : Heap} {locs : List Loc} {ls : Array Slot} (h : m_XP_movesFromMemory_12 σ k0 = some q) (hP : va_P D vwCl (tc_cW ad cA σ) H) (hS : va_S A s.heap H locs) (hl : lv_has ls 1 []) : W p l e (tc_R 0) s m args below meth c H locs 0 0 (MQ below (tc_Qi D (tc_cW ad cA q.2) A q.1) args s 0 0 A) (F0 m 12 ls [.int k0]) := by
  have C0 := C
  obtain ⟨hx, hb, hml, hown, ⟨hK, hN⟩, hr, hlk⟩ := C
  unfold m_XP_movesFromMemory_12 at h
  obtain ⟨hz, h⟩ := tc_gb_some h
  exact tc_crz C0 hP hS hz h dXP_movesFromMemory_12
def m_XP_movesFromMemory (σ : tc_S) : Option (Int32 × tc_S) := (if (tc_gf σ 23) ≤ 0 then (m_XP_movesFromMemory_12 σ 0) else (m_XP_movesFromMemory_12 σ 1))
set_option maxHeartbeats 4000000 in
set_option maxRecDepth 100000 in
theorem w_XP_movesFromMemory_0 (C : tc_C p s m args meth c RXP cXP_movesFromMemory 1 (some .boolean) D cA) (hJ : ∀ σ, va_D A (tc_cW ad cA σ)) {q : Int32 × tc_S} {σ : tc_S} {H : Heap} {locs : List Loc} {ls : Array Slot} (h : m_XP_movesFromMemory σ = some q) (hP : va_P D vwCl (tc_cW ad cA σ) H) (hS : va_S A s.heap H locs) (hl : lv_has ls 1 [(0, .ref (ad 3))]) : W p l e (tc_R 0) s m args below meth c H locs 0 0 (MQ below (tc_Qi D (tc_cW ad cA q.2) A q.1) args s 0 0 A) (F0 m 0 ls []) := by
  have C0 := C
  obtain ⟨hx, hb, hml, hown, ⟨hK, hN⟩, hr, hlk⟩ := C
  unfold m_XP_movesFromMemory at h
  refine lv_aload_n hx hb dXP_movesFromMemory_0 rfl (lv_at hl 0 rfl) ?_
  refine tc_cg23 C0 hP (tc_use hN tw_95) dXP_movesFromMemory_1 ?_
  refine lv_if_le (tgt := 11) hx hb dXP_movesFromMemory_4 (by decide) (fun hc => ?_) (fun hc => ?_)
  · have h := tc_ip hc h
    refine lv_iconst (v := 0) hx hb dXP_movesFromMemory_11 (by decide) ?_
    exact w_XP_movesFromMemory_12 C0 hJ h hP hS (lv_sub hl [] rfl)
  · have h := tc_in hc h
    refine lv_iconst (v := 1) hx hb dXP_movesFromMemory_7 (by decide) ?_
    refine lv_goto (tgt := 12) hx hb dXP_movesFromMemory_8 (by decide) ?_
    exact w_XP_movesFromMemory_12 C0 hJ h hP hS (lv_sub hl [] rfl)
theorem k_XP_movesFromMemory (hJ : ∀ σ, va_D A (tc_cW ad cA σ)) {σ : tc_S} {q : Int32 × tc_S} (h : m_XP_movesFromMemory σ = some q) : Met l yXP_movesFromMemory [.code yXP_movesFromMemory cXP_movesFromMemory 1 (some .boolean)] (tc_R 0) (tc_Pc D cA (tc_cW ad cA σ) [.ref (ad 3)]) (tc_Qi D (tc_cW ad cA q.2) A q.1) 0 0 A :=
  tc_met (by decide) (Nat.le_of_ble_eq_true rfl) (fun _ _ _ _ _ _ _ C hP _ hl => w_XP_movesFromMemory_0 C hJ h hP va_S.rf hl)
def m_XS_takeMainLate (σ : tc_S) : Option (Int32 × tc_S) := (some ((tc_gf σ 18), (tc_sf σ 18 0)))
set_option maxHeartbeats 4000000 in
set_option maxRecDepth 100000 in
theorem w_XS_takeMainLate_0 (C : tc_C p s m args meth c RXS cXS_takeMainLate 2 (some .int) D cA) (hJ : ∀ σ, va_D A (tc_cW ad cA σ)) {q : Int32 × tc_S} {σ : tc_S} {H : Heap} {locs : List Loc} {ls : Array Slot} (h : m_XS_takeMainLate σ = some q) (hP : va_P D vwCl (tc_cW ad cA σ) H) (hS : va_S A s.heap H locs) (hl : lv_has ls 2 [(0, .ref (ad 2))]) : W p l e (tc_R 0) s m args below meth c H locs 0 0 (MQ below (tc_Qi D (tc_cW ad cA q.2) A q.1) args s 0 0 A) (F0 m 0 ls []) := by
  have C0 := C
  obtain ⟨hx, hb, hml, hown, ⟨hK, hN⟩, hr, hlk⟩ := C
  unfold m_XS_takeMainLate at h
  refine lv_aload_n hx hb dXS_takeMainLate_0 rfl (lv_at hl 0 rfl) ?_
  refine tc_cg18 C0 hP (tc_use hN tw_42) dXS_takeMainLate_1 ?_
  refine lv_istore_n (lv' := [(1, .int (tc_gf σ 18)), (0, .ref (ad 2))]) hx hb dXS_takeMainLate_4 rfl hl (by decide) rfl (fun ls hl => ?_)
  refine lv_aload_n hx hb dXS_takeMainLate_5 rfl (lv_at hl 1 rfl) ?_
  refine lv_iconst (v := 0) hx hb dXS_takeMainLate_6 (by decide) ?_
  refine tc_cp18 C0 hJ hP hS (tc_use hN tw_42) dXS_takeMainLate_7 (fun H locs hP hS => ?_)
  refine lv_iload_n hx hb dXS_takeMainLate_10 rfl (lv_at hl 0 rfl) ?_
  exact tc_cri C0 hP hS h dXS_takeMainLate_11
theorem k_XS_takeMainLate (hJ : ∀ σ, va_D A (tc_cW ad cA σ)) {σ : tc_S} {q : Int32 × tc_S} (h : m_XS_takeMainLate σ = some q) : Met l yXS_takeMainLate [.code yXS_takeMainLate cXS_takeMainLate 2 (some .int)] (tc_R 0) (tc_Pc D cA (tc_cW ad cA σ) [.ref (ad 2)]) (tc_Qi D (tc_cW ad cA q.2) A q.1) 0 0 A :=
  tc_met (by decide) (Nat.le_of_ble_eq_true rfl) (fun _ _ _ _ _ _ _ C hP _ hl => w_XS_takeMainLate_0 C hJ h hP va_S.rf hl)
def m_XM_nextWord (σ : tc_S) : Option (Int32 × tc_S) := ((m_XU_readQuietly σ (tc_gf σ 1)).bind (fun q8 => (some (q8.1, (tc_sf q8.2 1 (((tc_gf q8.2 1) + 2) &&& 65535))))))
set_option maxHeartbeats 4000000 in
set_option maxRecDepth 100000 in
theorem w_XM_nextWord_0 (C : tc_C p s m args meth c RXM cXM_nextWord 2 (some .int) D cA) (hJ : ∀ σ, va_D A (tc_cW ad cA σ)) {q : Int32 × tc_S} {σ : tc_S} {H : Heap} {locs : List Loc} {ls : Array Slot} (h : m_XM_nextWord σ = some q) (hP : va_P D vwCl (tc_cW ad cA σ) H) (hS : va_S A s.heap H locs) (hl : lv_has ls 2 [(0, .ref (ad 1))]) : W p l e (tc_R 2) s m args below meth c H locs 0 0 (MQ below (tc_Qi D (tc_cW ad cA q.2) A q.1) args s 0 0 A) (F0 m 0 ls []) := by
  have C0 := C
  obtain ⟨hx, hb, hml, hown, ⟨hK, hN⟩, hr, hlk⟩ := C
  unfold m_XM_nextWord at h
  refine lv_aload_n hx hb dXM_nextWord_0 rfl (lv_at hl 0 rfl) ?_
  refine tc_cr_XM_bus C0 hP (tc_use hN tw_230) dXM_nextWord_1 ?_
  refine lv_aload_n hx hb dXM_nextWord_4 rfl (lv_at hl 0 rfl) ?_
  refine tc_cg1 C0 hP (tc_use hN tw_235) dXM_nextWord_5 ?_
  obtain ⟨q8, e8, h⟩ := tc_bd_some h
  refine tc_cVi (As := [.int (tc_gf σ 1)]) (rest := []) C0 (k_XU_readQuietly hJ e8) tv_XM_21 (by decide) (by decide) hP hS hl 6 rfl rfl (Nat.le_of_ble_eq_true rfl) dXM_nextWord_8 rfl (fun H locs hP hS => ?_)
  refine lv_istore_n (lv' := [(1, .int q8.1), (0, .ref (ad 1))]) hx hb dXM_nextWord_11 rfl hl (by decide) rfl (fun ls hl => ?_)
  refine lv_aload_n hx hb dXM_nextWord_12 rfl (lv_at hl 1 rfl) ?_
  refine lv_aload_n hx hb dXM_nextWord_13 rfl (lv_at hl 1 rfl) ?_
  refine tc_cg1 C0 hP (tc_use hN tw_235) dXM_nextWord_14 ?_
  refine lv_iconst (v := 2) hx hb dXM_nextWord_17 (by decide) ?_
  refine lv_iadd hx hb dXM_nextWord_18 ?_
  refine lv_ldc (v := 65535) hx hb hown (tc_use hN tw_368) dXM_nextWord_19 ?_
  refine lv_iand hx hb dXM_nextWord_21 ?_
  refine tc_cp1 C0 hJ hP hS (tc_use hN tw_235) dXM_nextWord_22 (fun H locs hP hS => ?_)
  refine lv_iload_n hx hb dXM_nextWord_25 rfl (lv_at hl 0 rfl) ?_
  exact tc_cri C0 hP hS h dXM_nextWord_26
theorem k_XM_nextWord (hJ : ∀ σ, va_D A (tc_cW ad cA σ)) {σ : tc_S} {q : Int32 × tc_S} (h : m_XM_nextWord σ = some q) : Met l yXM_nextWord [.code yXM_nextWord cXM_nextWord 2 (some .int)] (tc_R 2) (tc_Pc D cA (tc_cW ad cA σ) [.ref (ad 1)]) (tc_Qi D (tc_cW ad cA q.2) A q.1) 0 0 A :=
  tc_met (by decide) (Nat.le_of_ble_eq_true rfl) (fun _ _ _ _ _ _ _ C hP _ hl => w_XM_nextWord_0 C hJ h hP va_S.rf hl)
def m_XP_growAddress (σ : tc_S) : Option (tc_S) := (tc_gd 14 16 (some (tc_sf σ 19 (((tc_gf σ 19) + (tc_ga σ 5 14)) &&& 65535))))
set_option maxHeartbeats 4000000 in
set_option maxRecDepth 100000 in
theorem w_XP_growAddress_0 (C : tc_C p s m args meth c RXP cXP_growAddress 1 none D cA) (hJ : ∀ σ, va_D A (tc_cW ad cA σ)) {q : tc_S} {σ : tc_S} {H : Heap} {locs : List Loc} {ls : Array Slot} (h : m_XP_growAddress σ = some q) (hP : va_P D vwCl (tc_cW ad cA σ) H) (hS : va_S A s.heap H locs) (hl : lv_has ls 1 [(0, .ref (ad 3))]) : W p l e (tc_R 0) s m args below meth c H locs 0 0 (MQ below (tc_Qv D (tc_cW ad cA q) A) args s 0 0 A) (F0 m 0 ls []) := by
  have C0 := C
  obtain ⟨hx, hb, hml, hown, ⟨hK, hN⟩, hr, hlk⟩ := C
  unfold m_XP_growAddress at h
  refine lv_aload_n hx hb dXP_growAddress_0 rfl (lv_at hl 0 rfl) ?_
  refine lv_aload_n hx hb dXP_growAddress_1 rfl (lv_at hl 0 rfl) ?_
  refine tc_cg19 C0 hP (tc_use hN tw_87) dXP_growAddress_2 ?_
  refine lv_aload_n hx hb dXP_growAddress_5 rfl (lv_at hl 0 rfl) ?_
  refine tc_cr_XP_registers C0 hP (tc_use hN tw_84) dXP_growAddress_6 ?_
  refine lv_bipush (v := 14) hx hb dXP_growAddress_9 (by decide) ?_
  obtain ⟨hi, h⟩ := tc_gd_some h
  refine tc_cld14 C0 hP hi dXP_growAddress_11 ?_
  refine lv_iadd hx hb dXP_growAddress_12 ?_
  refine lv_ldc (v := 65535) hx hb hown (tc_use hN tw_350) dXP_growAddress_13 ?_
  refine lv_iand hx hb dXP_growAddress_15 ?_
  refine tc_cp19 C0 hJ hP hS (tc_use hN tw_87) dXP_growAddress_16 (fun H locs hP hS => ?_)
  exact tc_crv C0 hP hS h dXP_growAddress_19
theorem k_XP_growAddress (hJ : ∀ σ, va_D A (tc_cW ad cA σ)) {σ : tc_S} {q : tc_S} (h : m_XP_growAddress σ = some q) : Met l yXP_growAddress [.code yXP_growAddress cXP_growAddress 1 none] (tc_R 0) (tc_Pc D cA (tc_cW ad cA σ) [.ref (ad 3)]) (tc_Qv D (tc_cW ad cA q) A) 0 0 A :=
  tc_met (by decide) (Nat.le_of_ble_eq_true rfl) (fun _ _ _ _ _ _ _ C hP _ hl => w_XP_growAddress_0 C hJ h hP va_S.rf hl)
def m_XP_storeWord_113 (σ : tc_S) : Option (tc_S) := ((m_XP_growAddress σ).bind (fun q114 => (some q114)))
set_option maxHeartbeats 4000000 in
set_option maxRecDepth 100000 in
theorem w_XP_storeWord_113 (C : tc_C p s m args meth c RXP cXP_storeWord 3 none D cA) (hJ : ∀ σ, va_D A (tc_cW ad cA σ)) {q : tc_S} {σ : tc_S} {H : Heap} {locs : List Loc} {ls : Array Slot} (h : m_XP_storeWord_113 σ = some q) (hP : va_P D vwCl (tc_cW ad cA σ) H) (hS : va_S A s.heap H locs) (hl : lv_has ls 3 [(0, .ref (ad 3))]) : W p l e (tc_R 1) s m args below meth c H locs 0 0 (MQ below (tc_Qv D (tc_cW ad cA q) A) args s 0 0 A) (F0 m 113 ls []) := by
  have C0 := C
  obtain ⟨hx, hb, hml, hown, ⟨hK, hN⟩, hr, hlk⟩ := C
  unfold m_XP_storeWord_113 at h
  refine lv_aload_n hx hb dXP_storeWord_113 rfl (lv_at hl 0 rfl) ?_
  obtain ⟨q114, e114, h⟩ := tc_bd_some h
  refine tc_cVv (As := []) (rest := []) C0 (k_XP_growAddress hJ e114) tv_XP_67 (by decide) (by decide) hP hS hl 3 rfl rfl (Nat.le_of_ble_eq_true rfl) dXP_storeWord_114 rfl (fun H locs hP hS => ?_)
  exact tc_crv C0 hP hS h dXP_storeWord_117
def m_XP_storeWord (σ : tc_S) (l1 : Int32) : Option (tc_S) := (if ((tc_gf σ 20) &&& 15) = 1 then (tc_gd ((tc_gf σ 19) &&& 1023) 1024 (tc_gd (((tc_gf (tc_sa σ 2 ((tc_gf σ 19) &&& 1023) (l1 >>> ((8 : Int32) &&& 31))) 19) ^^^ 1) &&& 1023) 1024 (m_XP_storeWord_113 (tc_sa (tc_sa σ 2 ((tc_gf σ 19) &&& 1023) (l1 >>> ((8 : Int32) &&& 31))) 2 (((tc_gf (tc_sa σ 2 ((tc_gf σ 19) &&& 1023) (l1 >>> ((8 : Int32) &&& 31))) 19) ^^^ 1) &&& 1023) (l1 &&& 255))))) else (if ((tc_gf σ 20) &&& 15) = 2 then (m_XP_storeWord_113 σ) else (if ((tc_gf σ 20) &&& 15) = 3 then (tc_gd (((tc_gf σ 19) >>> ((1 : Int32) &&& 31)) &&& 15) 16 (m_XP_storeWord_113 (tc_sa σ 3 (((tc_gf σ 19) >>> ((1 : Int32) &&& 31)) &&& 15) l1))) else (if ((tc_gf σ 20) &&& 15) = 4 then (m_XP_storeWord_113 σ) else (if ((tc_gf σ 20) &&& 15) = 5 then (tc_gd (((tc_gf σ 19) >>> ((1 : Int32) &&& 31)) &&& 1) 2 (m_XP_storeWord_113 (tc_sa σ 4 (((tc_gf σ 19) >>> ((1 : Int32) &&& 31)) &&& 1) l1))) else (m_XP_storeWord_113 σ))))))
set_option maxHeartbeats 4000000 in
set_option maxRecDepth 100000 in
theorem w_XP_storeWord_0 (C : tc_C p s m args meth c RXP cXP_storeWord 3 none D cA) (hJ : ∀ σ, va_D A (tc_cW ad cA σ)) {q : tc_S} {σ : tc_S} {l1 : Int32} {H : Heap} {locs : List Loc} {ls : Array Slot} (h : m_XP_storeWord σ l1 = some q) (hP : va_P D vwCl (tc_cW ad cA σ) H) (hS : va_S A s.heap H locs) (hl : lv_has ls 3 [(0, .ref (ad 3)), (1, .int l1)]) : W p l e (tc_R 1) s m args below meth c H locs 0 0 (MQ below (tc_Qv D (tc_cW ad cA q) A) args s 0 0 A) (F0 m 0 ls []) := by
  have C0 := C
  obtain ⟨hx, hb, hml, hown, ⟨hK, hN⟩, hr, hlk⟩ := C
  unfold m_XP_storeWord at h
  refine lv_aload_n hx hb dXP_storeWord_0 rfl (lv_at hl 0 rfl) ?_
  refine tc_cg19 C0 hP (tc_use hN tw_87) dXP_storeWord_1 ?_
  refine lv_iconst (v := 1) hx hb dXP_storeWord_4 (by decide) ?_
  refine lv_ishr hx hb dXP_storeWord_5 ?_
  refine lv_istore_n (lv' := [(2, .int ((tc_gf σ 19) >>> ((1 : Int32) &&& 31))), (0, .ref (ad 3)), (1, .int l1)]) hx hb dXP_storeWord_6 rfl hl (by decide) rfl (fun ls hl => ?_)
  refine lv_aload_n hx hb dXP_storeWord_7 rfl (lv_at hl 1 rfl) ?_
  refine tc_cg20 C0 hP (tc_use hN tw_89) dXP_storeWord_8 ?_
  refine lv_bipush (v := 15) hx hb dXP_storeWord_11 (by decide) ?_
  refine lv_iand hx hb dXP_storeWord_13 ?_
  by_cases hc0 : ((tc_gf σ 20) &&& 15) = 1
  · have h := tc_ip hc0 h
    refine lv_tableIn (off := 34) (tgt := 48) hx hb dXP_storeWord_14 (by rw [hc0]; decide) (by rw [hc0]; decide) (by rw [hc0]; decide) (by decide) ?_
    refine lv_aload_n hx hb dXP_storeWord_48 rfl (lv_at hl 1 rfl) ?_
    refine tc_cr_XP_vramBytes C0 hP (tc_use hN tw_77) dXP_storeWord_49 ?_
    refine lv_aload_n hx hb dXP_storeWord_52 rfl (lv_at hl 1 rfl) ?_
    refine tc_cg19 C0 hP (tc_use hN tw_87) dXP_storeWord_53 ?_
    refine lv_sipush (v := 1023) hx hb dXP_storeWord_56 (by decide) ?_
    refine lv_iand hx hb dXP_storeWord_59 ?_
    refine lv_iload_n hx hb dXP_storeWord_60 rfl (lv_at hl 2 rfl) ?_
    refine lv_bipush (v := 8) hx hb dXP_storeWord_61 (by decide) ?_
    refine lv_ishr hx hb dXP_storeWord_63 ?_
    obtain ⟨hi, h⟩ := tc_gd_some h
    refine tc_cst11 C0 hJ hP hS hi dXP_storeWord_64 (fun H locs hP hS => ?_)
    refine lv_aload_n hx hb dXP_storeWord_65 rfl (lv_at hl 1 rfl) ?_
    refine tc_cr_XP_vramBytes C0 hP (tc_use hN tw_77) dXP_storeWord_66 ?_
    refine lv_aload_n hx hb dXP_storeWord_69 rfl (lv_at hl 1 rfl) ?_
    refine tc_cg19 C0 hP (tc_use hN tw_87) dXP_storeWord_70 ?_
    refine lv_iconst (v := 1) hx hb dXP_storeWord_73 (by decide) ?_
    refine lv_ixor hx hb dXP_storeWord_74 ?_
    refine lv_sipush (v := 1023) hx hb dXP_storeWord_75 (by decide) ?_
    refine lv_iand hx hb dXP_storeWord_78 ?_
    refine lv_iload_n hx hb dXP_storeWord_79 rfl (lv_at hl 2 rfl) ?_
    refine lv_sipush (v := 255) hx hb dXP_storeWord_80 (by decide) ?_
    refine lv_iand hx hb dXP_storeWord_83 ?_
    obtain ⟨hi, h⟩ := tc_gd_some h
    refine tc_cst11 C0 hJ hP hS hi dXP_storeWord_84 (fun H locs hP hS => ?_)
    refine lv_goto (tgt := 113) hx hb dXP_storeWord_85 (by decide) ?_
    exact w_XP_storeWord_113 C0 hJ h hP hS (lv_sub hl [1] rfl)
  have h := tc_in hc0 h
  by_cases hc1 : ((tc_gf σ 20) &&& 15) = 2
  · have h := tc_ip hc1 h
    refine lv_tableIn (off := 99) (tgt := 113) hx hb dXP_storeWord_14 (by rw [hc1]; decide) (by rw [hc1]; decide) (by rw [hc1]; decide) (by decide) ?_
    exact w_XP_storeWord_113 C0 hJ h hP hS (lv_sub hl [1] rfl)
  have h := tc_in hc1 h
  by_cases hc2 : ((tc_gf σ 20) &&& 15) = 3
  · have h := tc_ip hc2 h
    refine lv_tableIn (off := 74) (tgt := 88) hx hb dXP_storeWord_14 (by rw [hc2]; decide) (by rw [hc2]; decide) (by rw [hc2]; decide) (by decide) ?_
    refine lv_aload_n hx hb dXP_storeWord_88 rfl (lv_at hl 1 rfl) ?_
    refine tc_cr_XP_cram C0 hP (tc_use hN tw_78) dXP_storeWord_89 ?_
    refine lv_iload_n hx hb dXP_storeWord_92 rfl (lv_at hl 0 rfl) ?_
    refine lv_bipush (v := 15) hx hb dXP_storeWord_93 (by decide) ?_
    refine lv_iand hx hb dXP_storeWord_95 ?_
    refine lv_iload_n hx hb dXP_storeWord_96 rfl (lv_at hl 2 rfl) ?_
    obtain ⟨hi, h⟩ := tc_gd_some h
    refine tc_cst12 C0 hJ hP hS hi dXP_storeWord_97 (fun H locs hP hS => ?_)
    refine lv_goto (tgt := 113) hx hb dXP_storeWord_98 (by decide) ?_
    exact w_XP_storeWord_113 C0 hJ h hP hS (lv_sub hl [1] rfl)
  have h := tc_in hc2 h
  by_cases hc3 : ((tc_gf σ 20) &&& 15) = 4
  · have h := tc_ip hc3 h
    refine lv_tableIn (off := 99) (tgt := 113) hx hb dXP_storeWord_14 (by rw [hc3]; decide) (by rw [hc3]; decide) (by rw [hc3]; decide) (by decide) ?_
    exact w_XP_storeWord_113 C0 hJ h hP hS (lv_sub hl [1] rfl)
  have h := tc_in hc3 h
  by_cases hc4 : ((tc_gf σ 20) &&& 15) = 5
  · have h := tc_ip hc4 h
    refine lv_tableIn (off := 87) (tgt := 101) hx hb dXP_storeWord_14 (by rw [hc4]; decide) (by rw [hc4]; decide) (by rw [hc4]; decide) (by decide) ?_
    refine lv_aload_n hx hb dXP_storeWord_101 rfl (lv_at hl 1 rfl) ?_
    refine tc_cr_XP_vsram C0 hP (tc_use hN tw_80) dXP_storeWord_102 ?_
    refine lv_iload_n hx hb dXP_storeWord_105 rfl (lv_at hl 0 rfl) ?_
    refine lv_iconst (v := 1) hx hb dXP_storeWord_106 (by decide) ?_
    refine lv_iand hx hb dXP_storeWord_107 ?_
    refine lv_iload_n hx hb dXP_storeWord_108 rfl (lv_at hl 2 rfl) ?_
    obtain ⟨hi, h⟩ := tc_gd_some h
    refine tc_cst13 C0 hJ hP hS hi dXP_storeWord_109 (fun H locs hP hS => ?_)
    refine lv_goto (tgt := 113) hx hb dXP_storeWord_110 (by decide) ?_
    exact w_XP_storeWord_113 C0 hJ h hP hS (lv_sub hl [1] rfl)
  have h := tc_in hc4 h
  have hn0 := lv_neT (a := 1) hc0 (by decide)
  have hn1 := lv_neT (a := 2) hc1 (by decide)
  have hn2 := lv_neT (a := 3) hc2 (by decide)
  have hn3 := lv_neT (a := 4) hc3 (by decide)
  have hn4 := lv_neT (a := 5) hc4 (by decide)
  refine lv_tableOut (tgt := 113) hx hb dXP_storeWord_14 (by omega) (by decide) ?_
  exact w_XP_storeWord_113 C0 hJ h hP hS (lv_sub hl [1] rfl)
theorem k_XP_storeWord (hJ : ∀ σ, va_D A (tc_cW ad cA σ)) {σ : tc_S} {l1 : Int32} {q : tc_S} (h : m_XP_storeWord σ l1 = some q) : Met l yXP_storeWord [.code yXP_storeWord cXP_storeWord 3 none] (tc_R 1) (tc_Pc D cA (tc_cW ad cA σ) [.ref (ad 3), .int l1]) (tc_Qv D (tc_cW ad cA q) A) 0 0 A :=
  tc_met (by decide) (Nat.le_of_ble_eq_true rfl) (fun _ _ _ _ _ _ _ C hP _ hl => w_XP_storeWord_0 C hJ h hP va_S.rf hl)
def m_XP_moveLength_35 (σ : tc_S) (k0 : Int32) : Option (Int32 × tc_S) := (some (k0, σ))
set_option maxHeartbeats 4000000 in
set_option maxRecDepth 100000 in
theorem w_XP_moveLength_35 (C : tc_C p s m args meth c RXP cXP_moveLength 2 (some .int) D cA) (hJ : ∀ σ, va_D A (tc_cW ad cA σ)) {q : Int32 × tc_S} {σ : tc_S} {k0 : Int32} {H : Heap} {locs : List Loc} {ls : Array Slot} (h : m_XP_moveLength_35 σ k0 = some q) (hP : va_P D vwCl (tc_cW ad cA σ) H) (hS : va_S A s.heap H locs) (hl : lv_has ls 2 []) : W p l e (tc_R 0) s m args below meth c H locs 0 0 (MQ below (tc_Qi D (tc_cW ad cA q.2) A q.1) args s 0 0 A) (F0 m 35 ls [.int k0]) := by
  have C0 := C
  obtain ⟨hx, hb, hml, hown, ⟨hK, hN⟩, hr, hlk⟩ := C
  unfold m_XP_moveLength_35 at h
  exact tc_cri C0 hP hS h dXP_moveLength_35
def m_XP_moveLength (σ : tc_S) : Option (Int32 × tc_S) := (tc_gd 12 16 (tc_gd 11 16 (if ((((tc_ga σ 5 12) * 256) + (tc_ga σ 5 11)) &&& 511) = 0 then (m_XP_moveLength_35 σ 512) else (m_XP_moveLength_35 σ ((((tc_ga σ 5 12) * 256) + (tc_ga σ 5 11)) &&& 511)))))
set_option maxHeartbeats 4000000 in
set_option maxRecDepth 100000 in
theorem w_XP_moveLength_0 (C : tc_C p s m args meth c RXP cXP_moveLength 2 (some .int) D cA) (hJ : ∀ σ, va_D A (tc_cW ad cA σ)) {q : Int32 × tc_S} {σ : tc_S} {H : Heap} {locs : List Loc} {ls : Array Slot} (h : m_XP_moveLength σ = some q) (hP : va_P D vwCl (tc_cW ad cA σ) H) (hS : va_S A s.heap H locs) (hl : lv_has ls 2 [(0, .ref (ad 3))]) : W p l e (tc_R 0) s m args below meth c H locs 0 0 (MQ below (tc_Qi D (tc_cW ad cA q.2) A q.1) args s 0 0 A) (F0 m 0 ls []) := by
  have C0 := C
  obtain ⟨hx, hb, hml, hown, ⟨hK, hN⟩, hr, hlk⟩ := C
  unfold m_XP_moveLength at h
  refine lv_aload_n hx hb dXP_moveLength_0 rfl (lv_at hl 0 rfl) ?_
  refine tc_cr_XP_registers C0 hP (tc_use hN tw_84) dXP_moveLength_1 ?_
  refine lv_bipush (v := 12) hx hb dXP_moveLength_4 (by decide) ?_
  obtain ⟨hi, h⟩ := tc_gd_some h
  refine tc_cld14 C0 hP hi dXP_moveLength_6 ?_
  refine lv_sipush (v := 256) hx hb dXP_moveLength_7 (by decide) ?_
  refine lv_imul hx hb dXP_moveLength_10 ?_
  refine lv_aload_n hx hb dXP_moveLength_11 rfl (lv_at hl 0 rfl) ?_
  refine tc_cr_XP_registers C0 hP (tc_use hN tw_84) dXP_moveLength_12 ?_
  refine lv_bipush (v := 11) hx hb dXP_moveLength_15 (by decide) ?_
  obtain ⟨hi, h⟩ := tc_gd_some h
  refine tc_cld14 C0 hP hi dXP_moveLength_17 ?_
  refine lv_iadd hx hb dXP_moveLength_18 ?_
  refine lv_sipush (v := 511) hx hb dXP_moveLength_19 (by decide) ?_
  refine lv_iand hx hb dXP_moveLength_22 ?_
  refine lv_istore_n (lv' := [(1, .int ((((tc_ga σ 5 12) * 256) + (tc_ga σ 5 11)) &&& 511)), (0, .ref (ad 3))]) hx hb dXP_moveLength_23 rfl hl (by decide) rfl (fun ls hl => ?_)
  refine lv_iload_n hx hb dXP_moveLength_24 rfl (lv_at hl 0 rfl) ?_
  refine lv_if_ne (tgt := 34) hx hb dXP_moveLength_25 (by decide) (fun hc => ?_) (fun hc => ?_)
  · have h := tc_in hc h
    refine lv_iload_n hx hb dXP_moveLength_34 rfl (lv_at hl 0 rfl) ?_
    exact w_XP_moveLength_35 C0 hJ h hP hS (lv_sub hl [] rfl)
  · have h := tc_ip hc h
    refine lv_sipush (v := 512) hx hb dXP_moveLength_28 (by decide) ?_
    refine lv_goto (tgt := 35) hx hb dXP_moveLength_31 (by decide) ?_
    exact w_XP_moveLength_35 C0 hJ h hP hS (lv_sub hl [] rfl)
theorem k_XP_moveLength (hJ : ∀ σ, va_D A (tc_cW ad cA σ)) {σ : tc_S} {q : Int32 × tc_S} (h : m_XP_moveLength σ = some q) : Met l yXP_moveLength [.code yXP_moveLength cXP_moveLength 2 (some .int)] (tc_R 0) (tc_Pc D cA (tc_cW ad cA σ) [.ref (ad 3)]) (tc_Qi D (tc_cW ad cA q.2) A q.1) 0 0 A :=
  tc_met (by decide) (Nat.le_of_ble_eq_true rfl) (fun _ _ _ _ _ _ _ C hP _ hl => w_XP_moveLength_0 C hJ h hP va_S.rf hl)
def m_XP_endMove (σ : tc_S) : Option (tc_S) := (tc_gd 11 16 (tc_gd 12 16 (some (tc_sa (tc_sa σ 5 11 0) 5 12 0))))
set_option maxHeartbeats 4000000 in
set_option maxRecDepth 100000 in
theorem w_XP_endMove_0 (C : tc_C p s m args meth c RXP cXP_endMove 1 none D cA) (hJ : ∀ σ, va_D A (tc_cW ad cA σ)) {q : tc_S} {σ : tc_S} {H : Heap} {locs : List Loc} {ls : Array Slot} (h : m_XP_endMove σ = some q) (hP : va_P D vwCl (tc_cW ad cA σ) H) (hS : va_S A s.heap H locs) (hl : lv_has ls 1 [(0, .ref (ad 3))]) : W p l e (tc_R 0) s m args below meth c H locs 0 0 (MQ below (tc_Qv D (tc_cW ad cA q) A) args s 0 0 A) (F0 m 0 ls []) := by
  have C0 := C
  obtain ⟨hx, hb, hml, hown, ⟨hK, hN⟩, hr, hlk⟩ := C
  unfold m_XP_endMove at h
  refine lv_aload_n hx hb dXP_endMove_0 rfl (lv_at hl 0 rfl) ?_
  refine tc_cr_XP_registers C0 hP (tc_use hN tw_84) dXP_endMove_1 ?_
  refine lv_bipush (v := 11) hx hb dXP_endMove_4 (by decide) ?_
  refine lv_iconst (v := 0) hx hb dXP_endMove_6 (by decide) ?_
  obtain ⟨hi, h⟩ := tc_gd_some h
  refine tc_cst14 C0 hJ hP hS hi dXP_endMove_7 (fun H locs hP hS => ?_)
  refine lv_aload_n hx hb dXP_endMove_8 rfl (lv_at hl 0 rfl) ?_
  refine tc_cr_XP_registers C0 hP (tc_use hN tw_84) dXP_endMove_9 ?_
  refine lv_bipush (v := 12) hx hb dXP_endMove_12 (by decide) ?_
  refine lv_iconst (v := 0) hx hb dXP_endMove_14 (by decide) ?_
  obtain ⟨hi, h⟩ := tc_gd_some h
  refine tc_cst14 C0 hJ hP hS hi dXP_endMove_15 (fun H locs hP hS => ?_)
  exact tc_crv C0 hP hS h dXP_endMove_16
theorem k_XP_endMove (hJ : ∀ σ, va_D A (tc_cW ad cA σ)) {σ : tc_S} {q : tc_S} (h : m_XP_endMove σ = some q) : Met l yXP_endMove [.code yXP_endMove cXP_endMove 1 none] (tc_R 0) (tc_Pc D cA (tc_cW ad cA σ) [.ref (ad 3)]) (tc_Qv D (tc_cW ad cA q) A) 0 0 A :=
  tc_met (by decide) (Nat.le_of_ble_eq_true rfl) (fun _ _ _ _ _ _ _ C hP _ hl => w_XP_endMove_0 C hJ h hP va_S.rf hl)
end WALK_C_00
