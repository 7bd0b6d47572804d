section WALK_R_11
variable {p : Program} {l : Launch} {e : Env} {s : State} {m : MethodId} {args : Array Value} {below : List Frame} {meth : Method} {c : Code} {D : va_G} {cA : ClassId} {A : Nat → Prop} {ad : Nat → Nat}
def m_XR_exception (σ : tc_S) (l1 : Int32) : Option (tc_S) := ((m_XR_flagWord σ).bind (fun q12 => ((m_XR_write q12.2 (((tc_gf σ 0) - 6) &&& 65535) q12.1).bind (fun q15 => ((m_XR_write q15 (((tc_gf q15 0) - 4) &&& 65535) 0).bind (fun q29 => ((m_XR_write q29 (((tc_gf q29 0) - 2) &&& 65535) (tc_gf q29 1)).bind (fun q46 => ((m_XR_quiet (tc_sf q46 0 (((tc_gf q46 0) - 6) &&& 65535)) ((4 * l1) + 2)).bind (fun q70 => (some (tc_sf q70.2 1 q70.1))))))))))))
set_option maxHeartbeats 4000000 in
set_option maxRecDepth 100000 in
theorem w_XR_exception_0 (C : tc_C p s m args meth c RXR cXR_exception 2 none D cA) (hJ : ∀ σ, va_D A (tc_rW ad cA σ)) {q : tc_S} {σ : tc_S} {l1 : Int32} {H : Heap} {locs : List Loc} {ls : Array Slot} (h : m_XR_exception σ l1 = some q) (hP : va_P D vwCl (tc_rW ad cA σ) H) (hS : va_S A s.heap H locs) (hl : lv_has ls 2 [(0, .ref (ad 0)), (1, .int l1)]) : W p l e (tc_R 4) s m args below meth c H locs 0 0 (MQ below (tc_Qv D (tc_rW ad cA q) A) args s 0 0 A) (F0 m 0 ls []) := by
  have C0 := C
  obtain ⟨hx, hb, hml, hown, ⟨hK, hN⟩, hr, hlk⟩ := C
  unfold m_XR_exception at h
  refine lv_aload_n hx hb dXR_exception_0 rfl (lv_at hl 0 rfl) ?_
  refine lv_aload_n hx hb dXR_exception_1 rfl (lv_at hl 0 rfl) ?_
  refine tc_rg0 C0 hP (tc_use hN tw_624) dXR_exception_2 ?_
  refine lv_bipush (v := 6) hx hb dXR_exception_5 (by decide) ?_
  refine lv_isub hx hb dXR_exception_7 ?_
  refine lv_ldc (v := 65535) hx hb hown (tc_use hN tw_807) dXR_exception_8 ?_
  refine lv_iand hx hb dXR_exception_10 ?_
  refine lv_aload_n hx hb dXR_exception_11 rfl (lv_at hl 0 rfl) ?_
  obtain ⟨q12, e12, h⟩ := tc_bd_some h
  refine tc_cVi (As := []) (rest := [.int (((tc_gf σ 0) - 6) &&& 65535), .ref (ad 0)]) C0 (k_XR_flagWord hJ e12) tv_XR_186 (by decide) (by decide) hP hS hl 0 rfl rfl (Nat.le_of_ble_eq_true rfl) dXR_exception_12 rfl (fun H locs hP hS => ?_)
  obtain ⟨q15, e15, h⟩ := tc_bd_some h
  refine tc_cVv (As := [.int (((tc_gf σ 0) - 6) &&& 65535), .int q12.1]) (rest := []) C0 (k_XR_write hJ e15) tv_XR_189 (by decide) (by decide) hP hS hl 0 rfl rfl (Nat.le_of_ble_eq_true rfl) dXR_exception_15 rfl (fun H locs hP hS => ?_)
  refine lv_aload_n hx hb dXR_exception_18 rfl (lv_at hl 0 rfl) ?_
  refine lv_aload_n hx hb dXR_exception_19 rfl (lv_at hl 0 rfl) ?_
  refine tc_rg0 C0 hP (tc_use hN tw_624) dXR_exception_20 ?_
  refine lv_iconst (v := 4) hx hb dXR_exception_23 (by decide) ?_
  refine lv_isub hx hb dXR_exception_24 ?_
  refine lv_ldc (v := 65535) hx hb hown (tc_use hN tw_807) dXR_exception_25 ?_
  refine lv_iand hx hb dXR_exception_27 ?_
  refine lv_iconst (v := 0) hx hb dXR_exception_28 (by decide) ?_
  obtain ⟨q29, e29, h⟩ := tc_bd_some h
  refine tc_cVv (As := [.int (((tc_gf q15 0) - 4) &&& 65535), .int 0]) (rest := []) C0 (k_XR_write hJ e29) tv_XR_189 (by decide) (by decide) hP hS hl 0 rfl rfl (Nat.le_of_ble_eq_true rfl) dXR_exception_29 rfl (fun H locs hP hS => ?_)
  refine lv_aload_n hx hb dXR_exception_32 rfl (lv_at hl 0 rfl) ?_
  refine lv_aload_n hx hb dXR_exception_33 rfl (lv_at hl 0 rfl) ?_
  refine tc_rg0 C0 hP (tc_use hN tw_624) dXR_exception_34 ?_
  refine lv_iconst (v := 2) hx hb dXR_exception_37 (by decide) ?_
  refine lv_isub hx hb dXR_exception_38 ?_
  refine lv_ldc (v := 65535) hx hb hown (tc_use hN tw_807) dXR_exception_39 ?_
  refine lv_iand hx hb dXR_exception_41 ?_
  refine lv_aload_n hx hb dXR_exception_42 rfl (lv_at hl 0 rfl) ?_
  refine tc_rg1 C0 hP (tc_use hN tw_625) dXR_exception_43 ?_
  obtain ⟨q46, e46, h⟩ := tc_bd_some h
  refine tc_cVv (As := [.int (((tc_gf q29 0) - 2) &&& 65535), .int (tc_gf q29 1)]) (rest := []) C0 (k_XR_write hJ e46) tv_XR_189 (by decide) (by decide) hP hS hl 0 rfl rfl (Nat.le_of_ble_eq_true rfl) dXR_exception_46 rfl (fun H locs hP hS => ?_)
  refine lv_aload_n hx hb dXR_exception_49 rfl (lv_at hl 0 rfl) ?_
  refine lv_aload_n hx hb dXR_exception_50 rfl (lv_at hl 0 rfl) ?_
  refine tc_rg0 C0 hP (tc_use hN tw_624) dXR_exception_51 ?_
  refine lv_bipush (v := 6) hx hb dXR_exception_54 (by decide) ?_
  refine lv_isub hx hb dXR_exception_56 ?_
  refine lv_ldc (v := 65535) hx hb hown (tc_use hN tw_807) dXR_exception_57 ?_
  refine lv_iand hx hb dXR_exception_59 ?_
  refine tc_rp0 C0 hJ hP hS (tc_use hN tw_624) dXR_exception_60 (fun H locs hP hS => ?_)
  refine lv_aload_n hx hb dXR_exception_63 rfl (lv_at hl 0 rfl) ?_
  refine lv_aload_n hx hb dXR_exception_64 rfl (lv_at hl 0 rfl) ?_
  refine lv_iconst (v := 4) hx hb dXR_exception_65 (by decide) ?_
  refine lv_iload_n hx hb dXR_exception_66 rfl (lv_at hl 1 rfl) ?_
  refine lv_imul hx hb dXR_exception_67 ?_
  refine lv_iconst (v := 2) hx hb dXR_exception_68 (by decide) ?_
  refine lv_iadd hx hb dXR_exception_69 ?_
  obtain ⟨q70, e70, h⟩ := tc_bd_some h
  refine tc_cVi (As := [.int ((4 * l1) + 2)]) (rest := [.ref (ad 0)]) C0 (k_XR_quiet hJ e70) tv_XR_76 (by decide) (by decide) hP hS hl 0 rfl rfl (Nat.le_of_ble_eq_true rfl) dXR_exception_70 rfl (fun H locs hP hS => ?_)
  refine tc_rp1 C0 hJ hP hS (tc_use hN tw_625) dXR_exception_73 (fun H locs hP hS => ?_)
  exact tc_rrv C0 hP hS h dXR_exception_76
theorem k_XR_exception (hJ : ∀ σ, va_D A (tc_rW ad cA σ)) {σ : tc_S} {l1 : Int32} {q : tc_S} (h : m_XR_exception σ l1 = some q) : Met l yXR_exception [.code yXR_exception cXR_exception 2 none] (tc_R 4) (tc_Pc D cA (tc_rW ad cA σ) [.ref (ad 0), .int l1]) (tc_Qv D (tc_rW ad cA q) A) 0 0 A :=
  tc_met (by decide) (Nat.le_of_ble_eq_true rfl) (fun _ _ _ _ _ _ _ C hP _ hl => w_XR_exception_0 C hJ h hP va_S.rf hl)
def m_XR_holds_120 (σ : tc_S) : Option (Int32 × tc_S) := (some (0, σ))
set_option maxHeartbeats 4000000 in
set_option maxRecDepth 100000 in
theorem w_XR_holds_120 (C : tc_C p s m args meth c RXR cXR_holds 2 (some .boolean) D cA) (hJ : ∀ σ, va_D A (tc_rW ad cA σ)) {q : Int32 × tc_S} {σ : tc_S} {H : Heap} {locs : List Loc} {ls : Array Slot} (h : m_XR_holds_120 σ = some q) (hP : va_P D vwCl (tc_rW ad cA σ) H) (hS : va_S A s.heap H locs) (hl : lv_has ls 2 []) : W p l e (tc_R 0) s m args below meth c H locs 0 0 (MQ below (tc_Qi D (tc_rW ad cA q.2) A q.1) args s 0 0 A) (F0 m 120 ls []) := by
  have C0 := C
  obtain ⟨hx, hb, hml, hown, ⟨hK, hN⟩, hr, hlk⟩ := C
  unfold m_XR_holds_120 at h
  refine lv_iconst (v := 0) hx hb dXR_holds_120 (by decide) ?_
  exact tc_rrz C0 hP hS ⟨by decide, by decide⟩ h dXR_holds_121
def m_XR_holds_101 (σ : tc_S) (k0 : Int32) : Option (Int32 × tc_S) := (tc_gb k0 (some (k0, σ)))
set_option maxHeartbeats 4000000 in
set_option maxRecDepth 100000 in
theorem w_XR_holds_101 (C : tc_C p s m args meth c RXR cXR_holds 2 (some .boolean) D cA) (hJ : ∀ σ, va_D A (tc_rW ad cA σ)) {q : Int32 × tc_S} {σ : tc_S} {k0 : Int32} {H : Heap} {locs : List Loc} {ls : Array Slot} (h : m_XR_holds_101 σ k0 = some q) (hP : va_P D vwCl (tc_rW ad cA σ) H) (hS : va_S A s.heap H locs) (hl : lv_has ls 2 []) : W p l e (tc_R 0) s m args below meth c H locs 0 0 (MQ below (tc_Qi D (tc_rW ad cA q.2) A q.1) args s 0 0 A) (F0 m 101 ls [.int k0]) := by
  have C0 := C
  obtain ⟨hx, hb, hml, hown, ⟨hK, hN⟩, hr, hlk⟩ := C
  unfold m_XR_holds_101 at h
  obtain ⟨hz, h⟩ := tc_gb_some h
  exact tc_rrz C0 hP hS hz h dXR_holds_101
def m_XR_holds_83 (σ : tc_S) (k0 : Int32) : Option (Int32 × tc_S) := (tc_gb k0 (some (k0, σ)))
set_option maxHeartbeats 4000000 in
set_option maxRecDepth 100000 in
theorem w_XR_holds_83 (C : tc_C p s m args meth c RXR cXR_holds 2 (some .boolean) D cA) (hJ : ∀ σ, va_D A (tc_rW ad cA σ)) {q : Int32 × tc_S} {σ : tc_S} {k0 : Int32} {H : Heap} {locs : List Loc} {ls : Array Slot} (h : m_XR_holds_83 σ k0 = some q) (hP : va_P D vwCl (tc_rW ad cA σ) H) (hS : va_S A s.heap H locs) (hl : lv_has ls 2 []) : W p l e (tc_R 0) s m args below meth c H locs 0 0 (MQ below (tc_Qi D (tc_rW ad cA q.2) A q.1) args s 0 0 A) (F0 m 83 ls [.int k0]) := by
  have C0 := C
  obtain ⟨hx, hb, hml, hown, ⟨hK, hN⟩, hr, hlk⟩ := C
  unfold m_XR_holds_83 at h
  obtain ⟨hz, h⟩ := tc_gb_some h
  exact tc_rrz C0 hP hS hz h dXR_holds_83
def m_XR_holds_119 (σ : tc_S) (k0 : Int32) : Option (Int32 × tc_S) := (tc_gb k0 (some (k0, σ)))
set_option maxHeartbeats 4000000 in
set_option maxRecDepth 100000 in
theorem w_XR_holds_119 (C : tc_C p s m args meth c RXR cXR_holds 2 (some .boolean) D cA) (hJ : ∀ σ, va_D A (tc_rW ad cA σ)) {q : Int32 × tc_S} {σ : tc_S} {k0 : Int32} {H : Heap} {locs : List Loc} {ls : Array Slot} (h : m_XR_holds_119 σ k0 = some q) (hP : va_P D vwCl (tc_rW ad cA σ) H) (hS : va_S A s.heap H locs) (hl : lv_has ls 2 []) : W p l e (tc_R 0) s m args below meth c H locs 0 0 (MQ below (tc_Qi D (tc_rW ad cA q.2) A q.1) args s 0 0 A) (F0 m 119 ls [.int k0]) := by
  have C0 := C
  obtain ⟨hx, hb, hml, hown, ⟨hK, hN⟩, hr, hlk⟩ := C
  unfold m_XR_holds_119 at h
  obtain ⟨hz, h⟩ := tc_gb_some h
  exact tc_rrz C0 hP hS hz h dXR_holds_119
def m_XR_holds (σ : tc_S) (l1 : Int32) : Option (Int32 × tc_S) := (if l1 = 0 then (some (1, σ)) else (if l1 = 1 then (m_XR_holds_120 σ) else (if l1 = 2 then (m_XR_holds_120 σ) else (if l1 = 3 then (m_XR_holds_120 σ) else (if l1 = 4 then (if (tc_gf σ 6) = 0 then (m_XR_holds_101 σ 1) else (m_XR_holds_101 σ 0)) else (if l1 = 5 then (tc_gb (tc_gf σ 6) (some ((tc_gf σ 6), σ))) else (if l1 = 6 then (if (tc_gf σ 4) = 0 then (m_XR_holds_83 σ 1) else (m_XR_holds_83 σ 0)) else (if l1 = 7 then (tc_gb (tc_gf σ 4) (some ((tc_gf σ 4), σ))) else (if l1 = 8 then (m_XR_holds_120 σ) else (if l1 = 9 then (m_XR_holds_120 σ) else (if l1 = 10 then (if (tc_gf σ 3) = 0 then (m_XR_holds_119 σ 1) else (m_XR_holds_119 σ 0)) else (if l1 = 11 then (tc_gb (tc_gf σ 3) (some ((tc_gf σ 3), σ))) else (m_XR_holds_120 σ)))))))))))))
set_option maxHeartbeats 4000000 in
set_option maxRecDepth 100000 in
theorem w_XR_holds_0 (C : tc_C p s m args meth c RXR cXR_holds 2 (some .boolean) D cA) (hJ : ∀ σ, va_D A (tc_rW ad cA σ)) {q : Int32 × tc_S} {σ : tc_S} {l1 : Int32} {H : Heap} {locs : List Loc} {ls : Array Slot} (h : m_XR_holds σ l1 = some q) (hP : va_P D vwCl (tc_rW ad cA σ) H) (hS : va_S A s.heap H locs) (hl : lv_has ls 2 [(0, .ref (ad 0)), (1, .int l1)]) : W p l e (tc_R 0) s m args below meth c H locs 0 0 (MQ below (tc_Qi D (tc_rW ad cA q.2) A q.1) args s 0 0 A) (F0 m 0 ls []) := by
  have C0 := C
  obtain ⟨hx, hb, hml, hown, ⟨hK, hN⟩, hr, hlk⟩ := C
  unfold m_XR_holds at h
  refine lv_iload_n hx hb dXR_holds_0 rfl (lv_at hl 1 rfl) ?_
  by_cases hc0 : l1 = 0
  · have h := tc_ip hc0 h
    refine lv_tableIn (off := 63) (tgt := 64) hx hb dXR_holds_1 (by rw [hc0]; decide) (by rw [hc0]; decide) (by rw [hc0]; decide) (by decide) ?_
    refine lv_iconst (v := 1) hx hb dXR_holds_64 (by decide) ?_
    exact tc_rrz C0 hP hS ⟨by decide, by decide⟩ h dXR_holds_65
  have h := tc_in hc0 h
  by_cases hc1 : l1 = 1
  · have h := tc_ip hc1 h
    refine lv_tableIn (off := 119) (tgt := 120) hx hb dXR_holds_1 (by rw [hc1]; decide) (by rw [hc1]; decide) (by rw [hc1]; decide) (by decide) ?_
    exact w_XR_holds_120 C0 hJ h hP hS (lv_sub hl [] rfl)
  have h := tc_in hc1 h
  by_cases hc2 : l1 = 2
  · have h := tc_ip hc2 h
    refine lv_tableIn (off := 119) (tgt := 120) hx hb dXR_holds_1 (by rw [hc2]; decide) (by rw [hc2]; decide) (by rw [hc2]; decide) (by decide) ?_
    exact w_XR_holds_120 C0 hJ h hP hS (lv_sub hl [] rfl)
  have h := tc_in hc2 h
  by_cases hc3 : l1 = 3
  · have h := tc_ip hc3 h
    refine lv_tableIn (off := 119) (tgt := 120) hx hb dXR_holds_1 (by rw [hc3]; decide) (by rw [hc3]; decide) (by rw [hc3]; decide) (by decide) ?_
    exact w_XR_holds_120 C0 hJ h hP hS (lv_sub hl [] rfl)
  have h := tc_in hc3 h
  by_cases hc4 : l1 = 4
  · have h := tc_ip hc4 h
    refine lv_tableIn (off := 88) (tgt := 89) hx hb dXR_holds_1 (by rw [hc4]; decide) (by rw [hc4]; decide) (by rw [hc4]; decide) (by decide) ?_
    refine lv_aload_n hx hb dXR_holds_89 rfl (lv_at hl 0 rfl) ?_
    refine tc_rg6 C0 hP (tc_use hN tw_630) dXR_holds_90 ?_
    refine lv_if_ne (tgt := 100) hx hb dXR_holds_93 (by decide) (fun hc => ?_) (fun hc => ?_)
    · have h := tc_in hc h
      refine lv_iconst (v := 0) hx hb dXR_holds_100 (by decide) ?_
      exact w_XR_holds_101 C0 hJ h hP hS (lv_sub hl [] rfl)
    · have h := tc_ip hc h
      refine lv_iconst (v := 1) hx hb dXR_holds_96 (by decide) ?_
      refine lv_goto (tgt := 101) hx hb dXR_holds_97 (by decide) ?_
      exact w_XR_holds_101 C0 hJ h hP hS (lv_sub hl [] rfl)
  have h := tc_in hc4 h
  by_cases hc5 : l1 = 5
  · have h := tc_ip hc5 h
    refine lv_tableIn (off := 83) (tgt := 84) hx hb dXR_holds_1 (by rw [hc5]; decide) (by rw [hc5]; decide) (by rw [hc5]; decide) (by decide) ?_
    refine lv_aload_n hx hb dXR_holds_84 rfl (lv_at hl 0 rfl) ?_
    refine tc_rg6 C0 hP (tc_use hN tw_630) dXR_holds_85 ?_
    obtain ⟨hz, h⟩ := tc_gb_some h
    exact tc_rrz C0 hP hS hz h dXR_holds_88
  have h := tc_in hc5 h
  by_cases hc6 : l1 = 6
  · have h := tc_ip hc6 h
    refine lv_tableIn (off := 70) (tgt := 71) hx hb dXR_holds_1 (by rw [hc6]; decide) (by rw [hc6]; decide) (by rw [hc6]; decide) (by decide) ?_
    refine lv_aload_n hx hb dXR_holds_71 rfl (lv_at hl 0 rfl) ?_
    refine tc_rg4 C0 hP (tc_use hN tw_628) dXR_holds_72 ?_
    refine lv_if_ne (tgt := 82) hx hb dXR_holds_75 (by decide) (fun hc => ?_) (fun hc => ?_)
    · have h := tc_in hc h
      refine lv_iconst (v := 0) hx hb dXR_holds_82 (by decide) ?_
      exact w_XR_holds_83 C0 hJ h hP hS (lv_sub hl [] rfl)
    · have h := tc_ip hc h
      refine lv_iconst (v := 1) hx hb dXR_holds_78 (by decide) ?_
      refine lv_goto (tgt := 83) hx hb dXR_holds_79 (by decide) ?_
      exact w_XR_holds_83 C0 hJ h hP hS (lv_sub hl [] rfl)
  have h := tc_in hc6 h
  by_cases hc7 : l1 = 7
  · have h := tc_ip hc7 h
    refine lv_tableIn (off := 65) (tgt := 66) hx hb dXR_holds_1 (by rw [hc7]; decide) (by rw [hc7]; decide) (by rw [hc7]; decide) (by decide) ?_
    refine lv_aload_n hx hb dXR_holds_66 rfl (lv_at hl 0 rfl) ?_
    refine tc_rg4 C0 hP (tc_use hN tw_628) dXR_holds_67 ?_
    obtain ⟨hz, h⟩ := tc_gb_some h
    exact tc_rrz C0 hP hS hz h dXR_holds_70
  have h := tc_in hc7 h
  by_cases hc8 : l1 = 8
  · have h := tc_ip hc8 h
    refine lv_tableIn (off := 119) (tgt := 120) hx hb dXR_holds_1 (by rw [hc8]; decide) (by rw [hc8]; decide) (by rw [hc8]; decide) (by decide) ?_
    exact w_XR_holds_120 C0 hJ h hP hS (lv_sub hl [] rfl)
  have h := tc_in hc8 h
  by_cases hc9 : l1 = 9
  · have h := tc_ip hc9 h
    refine lv_tableIn (off := 119) (tgt := 120) hx hb dXR_holds_1 (by rw [hc9]; decide) (by rw [hc9]; decide) (by rw [hc9]; decide) (by decide) ?_
    exact w_XR_holds_120 C0 hJ h hP hS (lv_sub hl [] rfl)
  have h := tc_in hc9 h
  by_cases hc10 : l1 = 10
  · have h := tc_ip hc10 h
    refine lv_tableIn (off := 106) (tgt := 107) hx hb dXR_holds_1 (by rw [hc10]; decide) (by rw [hc10]; decide) (by rw [hc10]; decide) (by decide) ?_
    refine lv_aload_n hx hb dXR_holds_107 rfl (lv_at hl 0 rfl) ?_
    refine tc_rg3 C0 hP (tc_use hN tw_627) dXR_holds_108 ?_
    refine lv_if_ne (tgt := 118) hx hb dXR_holds_111 (by decide) (fun hc => ?_) (fun hc => ?_)
    · have h := tc_in hc h
      refine lv_iconst (v := 0) hx hb dXR_holds_118 (by decide) ?_
      exact w_XR_holds_119 C0 hJ h hP hS (lv_sub hl [] rfl)
    · have h := tc_ip hc h
      refine lv_iconst (v := 1) hx hb dXR_holds_114 (by decide) ?_
      refine lv_goto (tgt := 119) hx hb dXR_holds_115 (by decide) ?_
      exact w_XR_holds_119 C0 hJ h hP hS (lv_sub hl [] rfl)
  have h := tc_in hc10 h
  by_cases hc11 : l1 = 11
  · have h := tc_ip hc11 h
    refine lv_tableIn (off := 101) (tgt := 102) hx hb dXR_holds_1 (by rw [hc11]; decide) (by rw [hc11]; decide) (by rw [hc11]; decide) (by decide) ?_
    refine lv_aload_n hx hb dXR_holds_102 rfl (lv_at hl 0 rfl) ?_
    refine tc_rg3 C0 hP (tc_use hN tw_627) dXR_holds_103 ?_
    obtain ⟨hz, h⟩ := tc_gb_some h
    exact tc_rrz C0 hP hS hz h dXR_holds_106
  have h := tc_in hc11 h
  have hn0 := lv_neT (a := 0) hc0 (by decide)
  have hn1 := lv_neT (a := 1) hc1 (by decide)
  have hn2 := lv_neT (a := 2) hc2 (by decide)
  have hn3 := lv_neT (a := 3) hc3 (by decide)
  have hn4 := lv_neT (a := 4) hc4 (by decide)
  have hn5 := lv_neT (a := 5) hc5 (by decide)
  have hn6 := lv_neT (a := 6) hc6 (by decide)
  have hn7 := lv_neT (a := 7) hc7 (by decide)
  have hn8 := lv_neT (a := 8) hc8 (by decide)
  have hn9 := lv_neT (a := 9) hc9 (by decide)
  have hn10 := lv_neT (a := 10) hc10 (by decide)
  have hn11 := lv_neT (a := 11) hc11 (by decide)
  refine lv_tableOut (tgt := 120) hx hb dXR_holds_1 (by omega) (by decide) ?_
  exact w_XR_holds_120 C0 hJ h hP hS (lv_sub hl [] rfl)
theorem k_XR_holds (hJ : ∀ σ, va_D A (tc_rW ad cA σ)) {σ : tc_S} {l1 : Int32} {q : Int32 × tc_S} (h : m_XR_holds σ l1 = some q) : Met l yXR_holds [.code yXR_holds cXR_holds 2 (some .boolean)] (tc_R 0) (tc_Pc D cA (tc_rW ad cA σ) [.ref (ad 0), .int l1]) (tc_Qi D (tc_rW ad cA q.2) A q.1) 0 0 A :=
  tc_met (by decide) (Nat.le_of_ble_eq_true rfl) (fun _ _ _ _ _ _ _ C hP _ hl => w_XR_holds_0 C hJ h hP va_S.rf hl)
def m_XR_branch_55 (σ : tc_S) (k0 k1 : Int32) : Option (Int32 × tc_S) := (some (10, (tc_sf σ 1 ((k1 + k0) &&& 65535))))
set_option maxHeartbeats 4000000 in
set_option maxRecDepth 100000 in
theorem w_XR_branch_55 (C : tc_C p s m args meth c RXR cXR_branch 4 (some .int) D cA) (hJ : ∀ σ, va_D A (tc_rW ad cA σ)) {q : Int32 × tc_S} {σ : tc_S} {k0 k1 : Int32} {H : Heap} {locs : List Loc} {ls : Array Slot} (h : m_XR_branch_55 σ k0 k1 = some q) (hP : va_P D vwCl (tc_rW ad cA σ) H) (hS : va_S A s.heap H locs) (hl : lv_has ls 4 []) : W p l e (tc_R 1) s m args below meth c H locs 0 0 (MQ below (tc_Qi D (tc_rW ad cA q.2) A q.1) args s 0 0 A) (F0 m 55 ls [.int k0, .int k1, .ref (ad 0)]) := by
  have C0 := C
  obtain ⟨hx, hb, hml, hown, ⟨hK, hN⟩, hr, hlk⟩ := C
  unfold m_XR_branch_55 at h
  refine lv_iadd hx hb dXR_branch_55 ?_
  refine lv_ldc (v := 65535) hx hb hown (tc_use hN tw_807) dXR_branch_56 ?_
  refine lv_iand hx hb dXR_branch_58 ?_
  refine tc_rp1 C0 hJ hP hS (tc_use hN tw_625) dXR_branch_59 (fun H locs hP hS => ?_)
  refine lv_bipush (v := 10) hx hb dXR_branch_62 (by decide) ?_
  exact tc_rri C0 hP hS h dXR_branch_64
def m_XR_branch (σ : tc_S) (l1 : Int32) : Option (Int32 × tc_S) := (if (l1 &&& 255) = 0 then (some ((-1), σ)) else ((m_XR_holds σ ((l1 >>> ((8 : Int32) &&& 31)) &&& 15)).bind (fun q20 => (if q20.1 = 0 then (some (8, q20.2)) else (if (l1 &&& 255) ≤ 127 then (m_XR_branch_55 q20.2 (l1 &&& 255) (tc_gf q20.2 1)) else (m_XR_branch_55 q20.2 ((l1 &&& 255) - 256) (tc_gf q20.2 1)))))))
set_option maxHeartbeats 4000000 in
set_option maxRecDepth 100000 in
theorem w_XR_branch_0 (C : tc_C p s m args meth c RXR cXR_branch 4 (some .int) D cA) (hJ : ∀ σ, va_D A (tc_rW ad cA σ)) {q : Int32 × tc_S} {σ : tc_S} {l1 : Int32} {H : Heap} {locs : List Loc} {ls : Array Slot} (h : m_XR_branch σ l1 = some q) (hP : va_P D vwCl (tc_rW ad cA σ) H) (hS : va_S A s.heap H locs) (hl : lv_has ls 4 [(0, .ref (ad 0)), (1, .int l1)]) : W p l e (tc_R 1) s m args below meth c H locs 0 0 (MQ below (tc_Qi D (tc_rW ad cA q.2) A q.1) args s 0 0 A) (F0 m 0 ls []) := by
  have C0 := C
  obtain ⟨hx, hb, hml, hown, ⟨hK, hN⟩, hr, hlk⟩ := C
  unfold m_XR_branch at h
  refine lv_iload_n hx hb dXR_branch_0 rfl (lv_at hl 1 rfl) ?_
  refine lv_bipush (v := 8) hx hb dXR_branch_1 (by decide) ?_
  refine lv_ishr hx hb dXR_branch_3 ?_
  refine lv_bipush (v := 15) hx hb dXR_branch_4 (by decide) ?_
  refine lv_iand hx hb dXR_branch_6 ?_
  refine lv_istore_n (lv' := [(2, .int ((l1 >>> ((8 : Int32) &&& 31)) &&& 15)), (0, .ref (ad 0)), (1, .int l1)]) hx hb dXR_branch_7 rfl hl (by decide) rfl (fun ls hl => ?_)
  refine lv_iload_n hx hb dXR_branch_8 rfl (lv_at hl 2 rfl) ?_
  refine lv_sipush (v := 255) hx hb dXR_branch_9 (by decide) ?_
  refine lv_iand hx hb dXR_branch_12 ?_
  refine lv_if_ne (tgt := 18) hx hb dXR_branch_13 (by decide) (fun hc => ?_) (fun hc => ?_)
  · have h := tc_in hc h
    refine lv_aload_n hx hb dXR_branch_18 rfl (lv_at hl 1 rfl) ?_
    refine lv_iload_n hx hb dXR_branch_19 rfl (lv_at hl 0 rfl) ?_
    obtain ⟨q20, e20, h⟩ := tc_bd_some h
    refine tc_cVi (As := [.int ((l1 >>> ((8 : Int32) &&& 31)) &&& 15)]) (rest := []) C0 (k_XR_holds hJ e20) tv_XR_193 (by decide) (by decide) hP hS hl 0 rfl rfl (Nat.le_of_ble_eq_true rfl) dXR_branch_20 rfl (fun H locs hP hS => ?_)
    refine lv_if_ne (tgt := 29) hx hb dXR_branch_23 (by decide) (fun hc => ?_) (fun hc => ?_)
    · have h := tc_in hc h
      refine lv_iload_n hx hb dXR_branch_29 rfl (lv_at hl 2 rfl) ?_
      refine lv_sipush (v := 255) hx hb dXR_branch_30 (by decide) ?_
      refine lv_iand hx hb dXR_branch_33 ?_
      refine lv_istore_n (lv' := [(3, .int (l1 &&& 255)), (2, .int ((l1 >>> ((8 : Int32) &&& 31)) &&& 15)), (0, .ref (ad 0)), (1, .int l1)]) hx hb dXR_branch_34 rfl hl (by decide) rfl (fun ls hl => ?_)
      refine lv_aload_n hx hb dXR_branch_35 rfl (lv_at hl 2 rfl) ?_
      refine lv_aload_n hx hb dXR_branch_36 rfl (lv_at hl 2 rfl) ?_
      refine tc_rg1 C0 hP (tc_use hN tw_625) dXR_branch_37 ?_
      refine lv_iload_n hx hb dXR_branch_40 rfl (lv_at hl 0 rfl) ?_
      refine lv_bipush (v := 127) hx hb dXR_branch_41 (by decide) ?_
      refine lv_icmp_le (tgt := 54) hx hb dXR_branch_43 (by decide) (fun hc => ?_) (fun hc => ?_)
      · have h := tc_ip hc h
        refine lv_iload_n hx hb dXR_branch_54 rfl (lv_at hl 0 rfl) ?_
        exact w_XR_branch_55 C0 hJ h hP hS (lv_sub hl [] rfl)
      · have h := tc_in hc h
        refine lv_iload_n hx hb dXR_branch_46 rfl (lv_at hl 0 rfl) ?_
        refine lv_sipush (v := 256) hx hb dXR_branch_47 (by decide) ?_
        refine lv_isub hx hb dXR_branch_50 ?_
        refine lv_goto (tgt := 55) hx hb dXR_branch_51 (by decide) ?_
        exact w_XR_branch_55 C0 hJ h hP hS (lv_sub hl [] rfl)
    · have h := tc_ip hc h
      refine lv_bipush (v := 8) hx hb dXR_branch_26 (by decide) ?_
      exact tc_rri C0 hP hS h dXR_branch_28
  · have h := tc_ip hc h
    refine lv_iconst (v := (-1)) hx hb dXR_branch_16 (by decide) ?_
    exact tc_rri C0 hP hS h dXR_branch_17
theorem k_XR_branch (hJ : ∀ σ, va_D A (tc_rW ad cA σ)) {σ : tc_S} {l1 : Int32} {q : Int32 × tc_S} (h : m_XR_branch σ l1 = some q) : Met l yXR_branch [.code yXR_branch cXR_branch 4 (some .int)] (tc_R 1) (tc_Pc D cA (tc_rW ad cA σ) [.ref (ad 0), .int l1]) (tc_Qi D (tc_rW ad cA q.2) A q.1) 0 0 A :=
  tc_met (by decide) (Nat.le_of_ble_eq_true rfl) (fun _ _ _ _ _ _ _ C hP _ hl => w_XR_branch_0 C hJ h hP va_S.rf hl)
def m_XR_control2_136 (σ : tc_S) (k0 : Int32) : Option (Int32 × tc_S) := (some (k0, σ))
set_option maxHeartbeats 4000000 in
set_option maxRecDepth 100000 in
theorem w_XR_control2_136 (C : tc_C p s m args meth c RXR cXR_control2 3 (some .int) D cA) (hJ : ∀ σ, va_D A (tc_rW ad cA σ)) {q : Int32 × tc_S} {σ : tc_S} {k0 : Int32} {H : Heap} {locs : List Loc} {ls : Array Slot} (h : m_XR_control2_136 σ k0 = some q) (hP : va_P D vwCl (tc_rW ad cA σ) H) (hS : va_S A s.heap H locs) (hl : lv_has ls 3 []) : W p l e (tc_R 3) s m args below meth c H locs 0 0 (MQ below (tc_Qi D (tc_rW ad cA q.2) A q.1) args s 0 0 A) (F0 m 136 ls [.int k0]) := by
  have C0 := C
  obtain ⟨hx, hb, hml, hown, ⟨hK, hN⟩, hr, hlk⟩ := C
  unfold m_XR_control2_136 at h
  exact tc_rri C0 hP hS h dXR_control2_136
def m_XR_control2_118 (σ : tc_S) (l1 : Int32) : Option (Int32 × tc_S) := (if (l1 >>> ((12 : Int32) &&& 31)) = 6 then ((m_XR_branch σ l1).bind (fun q129 => (m_XR_control2_136 q129.2 q129.1))) else (m_XR_control2_136 σ (-1)))
set_option maxHeartbeats 4000000 in
set_option maxRecDepth 100000 in
theorem w_XR_control2_118 (C : tc_C p s m args meth c RXR cXR_control2 3 (some .int) D cA) (hJ : ∀ σ, va_D A (tc_rW ad cA σ)) {q : Int32 × tc_S} {σ : tc_S} {l1 : Int32} {H : Heap} {locs : List Loc} {ls : Array Slot} (h : m_XR_control2_118 σ l1 = some q) (hP : va_P D vwCl (tc_rW ad cA σ) H) (hS : va_S A s.heap H locs) (hl : lv_has ls 3 [(0, .ref (ad 0)), (1, .int l1)]) : W p l e (tc_R 3) s m args below meth c H locs 0 0 (MQ below (tc_Qi D (tc_rW ad cA q.2) A q.1) args s 0 0 A) (F0 m 118 ls []) := by
  have C0 := C
  obtain ⟨hx, hb, hml, hown, ⟨hK, hN⟩, hr, hlk⟩ := C
  unfold m_XR_control2_118 at h
  refine lv_iload_n hx hb dXR_control2_118 rfl (lv_at hl 1 rfl) ?_
  refine lv_bipush (v := 12) hx hb dXR_control2_119 (by decide) ?_
  refine lv_ishr hx hb dXR_control2_121 ?_
  refine lv_bipush (v := 6) hx hb dXR_control2_122 (by decide) ?_
  refine lv_icmp_ne (tgt := 135) hx hb dXR_control2_124 (by decide) (fun hc => ?_) (fun hc => ?_)
  · have h := tc_in hc h
    refine lv_iconst (v := (-1)) hx hb dXR_control2_135 (by decide) ?_
    exact w_XR_control2_136 C0 hJ h hP hS (lv_sub hl [] rfl)
  · have h := tc_ip hc h
    refine lv_aload_n hx hb dXR_control2_127 rfl (lv_at hl 0 rfl) ?_
    refine lv_iload_n hx hb dXR_control2_128 rfl (lv_at hl 1 rfl) ?_
    obtain ⟨q129, e129, h⟩ := tc_bd_some h
    refine tc_cVi (As := [.int l1]) (rest := []) C0 (k_XR_branch hJ e129) tv_XR_223 (by decide) (by decide) hP hS hl 0 rfl rfl (Nat.le_of_ble_eq_true rfl) dXR_control2_129 rfl (fun H locs hP hS => ?_)
    refine lv_goto (tgt := 136) hx hb dXR_control2_132 (by decide) ?_
    exact w_XR_control2_136 C0 hJ h hP hS (lv_sub hl [] rfl)
def m_XR_control2 (σ : tc_S) (l1 : Int32) : Option (Int32 × tc_S) := (if l1 = 20081 then (some (4, σ)) else (if l1 = 20083 then ((m_XR_quiet σ (tc_gf σ 0)).bind (fun q21 => ((m_XR_quiet q21.2 (((tc_gf q21.2 0) + 4) &&& 65535)).bind (fun q36 => ((m_XR_setFlagWord (tc_sf (tc_sf q36.2 1 q36.1) 0 (((tc_gf (tc_sf q36.2 1 q36.1) 0) + 6) &&& 65535)) q21.1).bind (fun q58 => (some (20, q58)))))))) else (if l1 = 20082 then ((m_XR_fetch σ).bind (fun q73 => ((m_XR_setFlagWord q73.2 q73.1).bind (fun q76 => (some (4, (tc_sf q76 7 1))))))) else (if l1 < 20064 then (m_XR_control2_118 σ l1) else (if 20072 ≤ l1 then (m_XR_control2_118 σ l1) else (tc_gd (l1 &&& 7) 8 (some (4, (tc_sf σ 0 ((tc_ga σ 0 (l1 &&& 7)) &&& 65535))))))))))
set_option maxHeartbeats 4000000 in
set_option maxRecDepth 100000 in
theorem w_XR_control2_0 (C : tc_C p s m args meth c RXR cXR_control2 3 (some .int) D cA) (hJ : ∀ σ, va_D A (tc_rW ad cA σ)) {q : Int32 × tc_S} {σ : tc_S} {l1 : Int32} {H : Heap} {locs : List Loc} {ls : Array Slot} (h : m_XR_control2 σ l1 = some q) (hP : va_P D vwCl (tc_rW ad cA σ) H) (hS : va_S A s.heap H locs) (hl : lv_has ls 3 [(0, .ref (ad 0)), (1, .int l1)]) : W p l e (tc_R 3) s m args below meth c H locs 0 0 (MQ below (tc_Qi D (tc_rW ad cA q.2) A q.1) args s 0 0 A) (F0 m 0 ls []) := by
  have C0 := C
  obtain ⟨hx, hb, hml, hown, ⟨hK, hN⟩, hr, hlk⟩ := C
  unfold m_XR_control2 at h
  refine lv_iload_n hx hb dXR_control2_0 rfl (lv_at hl 1 rfl) ?_
  refine lv_sipush (v := 20081) hx hb dXR_control2_1 (by decide) ?_
  refine lv_icmp_ne (tgt := 9) hx hb dXR_control2_4 (by decide) (fun hc => ?_) (fun hc => ?_)
  · have h := tc_in hc h
    refine lv_iload_n hx hb dXR_control2_9 rfl (lv_at hl 1 rfl) ?_
    refine lv_sipush (v := 20083) hx hb dXR_control2_10 (by decide) ?_
    refine lv_icmp_ne (tgt := 64) hx hb dXR_control2_13 (by decide) (fun hc => ?_) (fun hc => ?_)
    · have h := tc_in hc h
      refine lv_iload_n hx hb dXR_control2_64 rfl (lv_at hl 1 rfl) ?_
      refine lv_sipush (v := 20082) hx hb dXR_control2_65 (by decide) ?_
      refine lv_icmp_ne (tgt := 86) hx hb dXR_control2_68 (by decide) (fun hc => ?_) (fun hc => ?_)
      · have h := tc_in hc h
        refine lv_iload_n hx hb dXR_control2_86 rfl (lv_at hl 1 rfl) ?_
        refine lv_sipush (v := 20064) hx hb dXR_control2_87 (by decide) ?_
        refine lv_icmp_lt (tgt := 118) hx hb dXR_control2_90 (by decide) (fun hc => ?_) (fun hc => ?_)
        · have h := tc_ip hc h
          exact w_XR_control2_118 C0 hJ h hP hS (lv_sub hl [0, 1] rfl)
        · have h := tc_in hc h
          refine lv_iload_n hx hb dXR_control2_93 rfl (lv_at hl 1 rfl) ?_
          refine lv_sipush (v := 20072) hx hb dXR_control2_94 (by decide) ?_
          refine lv_icmp_ge (tgt := 118) hx hb dXR_control2_97 (by decide) (fun hc => ?_) (fun hc => ?_)
          · have h := tc_ip hc h
            exact w_XR_control2_118 C0 hJ h hP hS (lv_sub hl [0, 1] rfl)
          · have h := tc_in hc h
            refine lv_aload_n hx hb dXR_control2_100 rfl (lv_at hl 0 rfl) ?_
            refine lv_aload_n hx hb dXR_control2_101 rfl (lv_at hl 0 rfl) ?_
            refine tc_rr_XR_d C0 hP (tc_use hN tw_623) dXR_control2_102 ?_
            refine lv_iload_n hx hb dXR_control2_105 rfl (lv_at hl 1 rfl) ?_
            refine lv_bipush (v := 7) hx hb dXR_control2_106 (by decide) ?_
            refine lv_iand hx hb dXR_control2_108 ?_
            obtain ⟨hi, h⟩ := tc_gd_some h
            refine tc_rld3 C0 hP hi dXR_control2_109 ?_
            refine lv_ldc (v := 65535) hx hb hown (tc_use hN tw_807) dXR_control2_110 ?_
            refine lv_iand hx hb dXR_control2_112 ?_
            refine tc_rp0 C0 hJ hP hS (tc_use hN tw_624) dXR_control2_113 (fun H locs hP hS => ?_)
            refine lv_iconst (v := 4) hx hb dXR_control2_116 (by decide) ?_
            exact tc_rri C0 hP hS h dXR_control2_117
      · have h := tc_ip hc h
        refine lv_aload_n hx hb dXR_control2_71 rfl (lv_at hl 0 rfl) ?_
        refine lv_aload_n hx hb dXR_control2_72 rfl (lv_at hl 0 rfl) ?_
        obtain ⟨q73, e73, h⟩ := tc_bd_some h
        refine tc_cVi (As := []) (rest := [.ref (ad 0)]) C0 (k_XR_fetch hJ e73) tv_XR_205 (by decide) (by decide) hP hS hl 0 rfl rfl (Nat.le_of_ble_eq_true rfl) dXR_control2_73 rfl (fun H locs hP hS => ?_)
        obtain ⟨q76, e76, h⟩ := tc_bd_some h
        refine tc_cVv (As := [.int q73.1]) (rest := []) C0 (k_XR_setFlagWord hJ e76) tv_XR_217 (by decide) (by decide) hP hS hl 0 rfl rfl (Nat.le_of_ble_eq_true rfl) dXR_control2_76 rfl (fun H locs hP hS => ?_)
        refine lv_aload_n hx hb dXR_control2_79 rfl (lv_at hl 0 rfl) ?_
        refine lv_iconst (v := 1) hx hb dXR_control2_80 (by decide) ?_
        refine tc_rp7 C0 hJ hP hS (tc_use hN tw_631) ⟨by decide, by decide⟩ dXR_control2_81 (fun H locs hP hS => ?_)
        refine lv_iconst (v := 4) hx hb dXR_control2_84 (by decide) ?_
        exact tc_rri C0 hP hS h dXR_control2_85
    · have h := tc_ip hc h
      refine lv_aload_n hx hb dXR_control2_16 rfl (lv_at hl 0 rfl) ?_
      refine lv_aload_n hx hb dXR_control2_17 rfl (lv_at hl 0 rfl) ?_
      refine tc_rg0 C0 hP (tc_use hN tw_624) dXR_control2_18 ?_
      obtain ⟨q21, e21, h⟩ := tc_bd_some h
      refine tc_cVi (As := [.int (tc_gf σ 0)]) (rest := []) C0 (k_XR_quiet hJ e21) tv_XR_76 (by decide) (by decide) hP hS hl 0 rfl rfl (Nat.le_of_ble_eq_true rfl) dXR_control2_21 rfl (fun H locs hP hS => ?_)
      refine lv_istore_n (lv' := [(2, .int q21.1), (0, .ref (ad 0)), (1, .int l1)]) hx hb dXR_control2_24 rfl hl (by decide) rfl (fun ls hl => ?_)
      refine lv_aload_n hx hb dXR_control2_25 rfl (lv_at hl 1 rfl) ?_
      refine lv_aload_n hx hb dXR_control2_26 rfl (lv_at hl 1 rfl) ?_
      refine lv_aload_n hx hb dXR_control2_27 rfl (lv_at hl 1 rfl) ?_
      refine tc_rg0 C0 hP (tc_use hN tw_624) dXR_control2_28 ?_
      refine lv_iconst (v := 4) hx hb dXR_control2_31 (by decide) ?_
      refine lv_iadd hx hb dXR_control2_32 ?_
      refine lv_ldc (v := 65535) hx hb hown (tc_use hN tw_807) dXR_control2_33 ?_
      refine lv_iand hx hb dXR_control2_35 ?_
      obtain ⟨q36, e36, h⟩ := tc_bd_some h
      refine tc_cVi (As := [.int (((tc_gf q21.2 0) + 4) &&& 65535)]) (rest := [.ref (ad 0)]) C0 (k_XR_quiet hJ e36) tv_XR_76 (by decide) (by decide) hP hS hl 0 rfl rfl (Nat.le_of_ble_eq_true rfl) dXR_control2_36 rfl (fun H locs hP hS => ?_)
      refine tc_rp1 C0 hJ hP hS (tc_use hN tw_625) dXR_control2_39 (fun H locs hP hS => ?_)
      refine lv_aload_n hx hb dXR_control2_42 rfl (lv_at hl 1 rfl) ?_
      refine lv_aload_n hx hb dXR_control2_43 rfl (lv_at hl 1 rfl) ?_
      refine tc_rg0 C0 hP (tc_use hN tw_624) dXR_control2_44 ?_
      refine lv_bipush (v := 6) hx hb dXR_control2_47 (by decide) ?_
      refine lv_iadd hx hb dXR_control2_49 ?_
      refine lv_ldc (v := 65535) hx hb hown (tc_use hN tw_807) dXR_control2_50 ?_
      refine lv_iand hx hb dXR_control2_52 ?_
      refine tc_rp0 C0 hJ hP hS (tc_use hN tw_624) dXR_control2_53 (fun H locs hP hS => ?_)
      refine lv_aload_n hx hb dXR_control2_56 rfl (lv_at hl 1 rfl) ?_
      refine lv_iload_n hx hb dXR_control2_57 rfl (lv_at hl 0 rfl) ?_
      obtain ⟨q58, e58, h⟩ := tc_bd_some h
      refine tc_cVv (As := [.int q21.1]) (rest := []) C0 (k_XR_setFlagWord hJ e58) tv_XR_217 (by decide) (by decide) hP hS hl 0 rfl rfl (Nat.le_of_ble_eq_true rfl) dXR_control2_58 rfl (fun H locs hP hS => ?_)
      refine lv_bipush (v := 20) hx hb dXR_control2_61 (by decide) ?_
      exact tc_rri C0 hP hS h dXR_control2_63
  · have h := tc_ip hc h
    refine lv_iconst (v := 4) hx hb dXR_control2_7 (by decide) ?_
    exact tc_rri C0 hP hS h dXR_control2_8
theorem k_XR_control2 (hJ : ∀ σ, va_D A (tc_rW ad cA σ)) {σ : tc_S} {l1 : Int32} {q : Int32 × tc_S} (h : m_XR_control2 σ l1 = some q) : Met l yXR_control2 [.code yXR_control2 cXR_control2 3 (some .int)] (tc_R 3) (tc_Pc D cA (tc_rW ad cA σ) [.ref (ad 0), .int l1]) (tc_Qi D (tc_rW ad cA q.2) A q.1) 0 0 A :=
  tc_met (by decide) (Nat.le_of_ble_eq_true rfl) (fun _ _ _ _ _ _ _ C hP _ hl => w_XR_control2_0 C hJ h hP va_S.rf hl)
def m_XR_instruction_50 (σ : tc_S) (l2 : Int32) : Option (Int32 × tc_S) := (some (l2, σ))
set_option maxHeartbeats 4000000 in
set_option maxRecDepth 100000 in
theorem w_XR_instruction_50 (C : tc_C p s m args meth c RXR cXR_instruction 3 (some .int) D cA) (hJ : ∀ σ, va_D A (tc_rW ad cA σ)) {q : Int32 × tc_S} {σ : tc_S} {l2 : Int32} {H : Heap} {locs : List Loc} {ls : Array Slot} (h : m_XR_instruction_50 σ l2 = some q) (hP : va_P D vwCl (tc_rW ad cA σ) H) (hS : va_S A s.heap H locs) (hl : lv_has ls 3 [(2, .int l2)]) : W p l e (tc_R 5) s m args below meth c H locs 0 0 (MQ below (tc_Qi D (tc_rW ad cA q.2) A q.1) args s 0 0 A) (F0 m 50 ls []) := by
  have C0 := C
  obtain ⟨hx, hb, hml, hown, ⟨hK, hN⟩, hr, hlk⟩ := C
  unfold m_XR_instruction_50 at h
  refine lv_iload_n hx hb dXR_instruction_50 rfl (lv_at hl 0 rfl) ?_
  exact tc_rri C0 hP hS h dXR_instruction_51
def m_XR_instruction_24 (σ : tc_S) (k0 : Int32) : Option (Int32 × tc_S) := (if 0 ≤ k0 then (m_XR_instruction_50 σ k0) else ((m_XR_exception (tc_sf σ 1 (((tc_gf σ 1) - 2) &&& 65535)) 4).bind (fun q44 => (m_XR_instruction_50 q44 34))))
set_option maxHeartbeats 4000000 in
set_option maxRecDepth 100000 in
theorem w_XR_instruction_24 (C : tc_C p s m args meth c RXR cXR_instruction 3 (some .int) D cA) (hJ : ∀ σ, va_D A (tc_rW ad cA σ)) {q : Int32 × tc_S} {σ : tc_S} {k0 : Int32} {H : Heap} {locs : List Loc} {ls : Array Slot} (h : m_XR_instruction_24 σ k0 = some q) (hP : va_P D vwCl (tc_rW ad cA σ) H) (hS : va_S A s.heap H locs) (hl : lv_has ls 3 [(0, .ref (ad 0))]) : W p l e (tc_R 5) s m args below meth c H locs 0 0 (MQ below (tc_Qi D (tc_rW ad cA q.2) A q.1) args s 0 0 A) (F0 m 24 ls [.int k0]) := by
  have C0 := C
  obtain ⟨hx, hb, hml, hown, ⟨hK, hN⟩, hr, hlk⟩ := C
  unfold m_XR_instruction_24 at h
  refine lv_istore_n (lv' := [(2, .int k0), (0, .ref (ad 0))]) hx hb dXR_instruction_24 rfl hl (by decide) rfl (fun ls hl => ?_)
  refine lv_iload_n hx hb dXR_instruction_25 rfl (lv_at hl 0 rfl) ?_
  refine lv_if_ge (tgt := 50) hx hb dXR_instruction_26 (by decide) (fun hc => ?_) (fun hc => ?_)
  · have h := tc_ip hc h
    exact w_XR_instruction_50 C0 hJ h hP hS (lv_sub hl [0] rfl)
  · have h := tc_in hc h
    refine lv_aload_n hx hb dXR_instruction_29 rfl (lv_at hl 1 rfl) ?_
    refine lv_aload_n hx hb dXR_instruction_30 rfl (lv_at hl 1 rfl) ?_
    refine tc_rg1 C0 hP (tc_use hN tw_625) dXR_instruction_31 ?_
    refine lv_iconst (v := 2) hx hb dXR_instruction_34 (by decide) ?_
    refine lv_isub hx hb dXR_instruction_35 ?_
    refine lv_ldc (v := 65535) hx hb hown (tc_use hN tw_807) dXR_instruction_36 ?_
    refine lv_iand hx hb dXR_instruction_38 ?_
    refine tc_rp1 C0 hJ hP hS (tc_use hN tw_625) dXR_instruction_39 (fun H locs hP hS => ?_)
    refine lv_aload_n hx hb dXR_instruction_42 rfl (lv_at hl 1 rfl) ?_
    refine lv_iconst (v := 4) hx hb dXR_instruction_43 (by decide) ?_
    obtain ⟨q44, e44, h⟩ := tc_bd_some h
    refine tc_cVv (As := [.int 4]) (rest := []) C0 (k_XR_exception hJ e44) tv_XR_232 (by decide) (by decide) hP hS hl 0 rfl rfl (Nat.le_of_ble_eq_true rfl) dXR_instruction_44 rfl (fun H locs hP hS => ?_)
    refine lv_bipush (v := 34) hx hb dXR_instruction_47 (by decide) ?_
    refine lv_istore_n (lv' := [(2, .int 34), (0, .ref (ad 0))]) hx hb dXR_instruction_49 rfl hl (by decide) rfl (fun ls hl => ?_)
    exact w_XR_instruction_50 C0 hJ h hP hS (lv_sub hl [0] rfl)
def m_XR_instruction (σ : tc_S) : Option (Int32 × tc_S) := ((m_XR_fetch σ).bind (fun q1 => ((m_XR_move q1.2 q1.1).bind (fun q7 => (if 0 ≤ q7.1 then (m_XR_instruction_24 q7.2 q7.1) else ((m_XR_control2 q7.2 q1.1).bind (fun q17 => (m_XR_instruction_24 q17.2 q17.1))))))))
set_option maxHeartbeats 4000000 in
set_option maxRecDepth 100000 in
theorem w_XR_instruction_0 (C : tc_C p s m args meth c RXR cXR_instruction 3 (some .int) D cA) (hJ : ∀ σ, va_D A (tc_rW ad cA σ)) {q : Int32 × tc_S} {σ : tc_S} {H : Heap} {locs : List Loc} {ls : Array Slot} (h : m_XR_instruction σ = some q) (hP : va_P D vwCl (tc_rW ad cA σ) H) (hS : va_S A s.heap H locs) (hl : lv_has ls 3 [(0, .ref (ad 0))]) : W p l e (tc_R 5) s m args below meth c H locs 0 0 (MQ below (tc_Qi D (tc_rW ad cA q.2) A q.1) args s 0 0 A) (F0 m 0 ls []) := by
  have C0 := C
  obtain ⟨hx, hb, hml, hown, ⟨hK, hN⟩, hr, hlk⟩ := C
  unfold m_XR_instruction at h
  refine lv_aload_n hx hb dXR_instruction_0 rfl (lv_at hl 0 rfl) ?_
  obtain ⟨q1, e1, h⟩ := tc_bd_some h
  refine tc_cVi (As := []) (rest := []) C0 (k_XR_fetch hJ e1) tv_XR_205 (by decide) (by decide) hP hS hl 0 rfl rfl (Nat.le_of_ble_eq_true rfl) dXR_instruction_1 rfl (fun H locs hP hS => ?_)
  refine lv_istore_n (lv' := [(1, .int q1.1), (0, .ref (ad 0))]) hx hb dXR_instruction_4 rfl hl (by decide) rfl (fun ls hl => ?_)
  refine lv_aload_n hx hb dXR_instruction_5 rfl (lv_at hl 1 rfl) ?_
  refine lv_iload_n hx hb dXR_instruction_6 rfl (lv_at hl 0 rfl) ?_
  obtain ⟨q7, e7, h⟩ := tc_bd_some h
  refine tc_cVi (As := [.int q1.1]) (rest := []) C0 (k_XR_move hJ e7) tv_XR_226 (by decide) (by decide) hP hS hl 0 rfl rfl (Nat.le_of_ble_eq_true rfl) dXR_instruction_7 rfl (fun H locs hP hS => ?_)
  refine lv_istore_n (lv' := [(2, .int q7.1), (1, .int q1.1), (0, .ref (ad 0))]) hx hb dXR_instruction_10 rfl hl (by decide) rfl (fun ls hl => ?_)
  refine lv_iload_n hx hb dXR_instruction_11 rfl (lv_at hl 0 rfl) ?_
  refine lv_if_ge (tgt := 23) hx hb dXR_instruction_12 (by decide) (fun hc => ?_) (fun hc => ?_)
  · have h := tc_ip hc h
    refine lv_iload_n hx hb dXR_instruction_23 rfl (lv_at hl 0 rfl) ?_
    exact w_XR_instruction_24 C0 hJ h hP hS (lv_sub hl [2] rfl)
  · have h := tc_in hc h
    refine lv_aload_n hx hb dXR_instruction_15 rfl (lv_at hl 2 rfl) ?_
    refine lv_iload_n hx hb dXR_instruction_16 rfl (lv_at hl 1 rfl) ?_
    obtain ⟨q17, e17, h⟩ := tc_bd_some h
    refine tc_cVi (As := [.int q1.1]) (rest := []) C0 (k_XR_control2 hJ e17) tv_XR_229 (by decide) (by decide) hP hS hl 0 rfl rfl (Nat.le_of_ble_eq_true rfl) dXR_instruction_17 rfl (fun H locs hP hS => ?_)
    refine lv_goto (tgt := 24) hx hb dXR_instruction_20 (by decide) ?_
    exact w_XR_instruction_24 C0 hJ h hP hS (lv_sub hl [2] rfl)
theorem k_XR_instruction (hJ : ∀ σ, va_D A (tc_rW ad cA σ)) {σ : tc_S} {q : Int32 × tc_S} (h : m_XR_instruction σ = some q) : Met l yXR_instruction [.code yXR_instruction cXR_instruction 3 (some .int)] (tc_R 5) (tc_Pc D cA (tc_rW ad cA σ) [.ref (ad 0)]) (tc_Qi D (tc_rW ad cA q.2) A q.1) 0 0 A :=
  tc_met (by decide) (Nat.le_of_ble_eq_true rfl) (fun _ _ _ _ _ _ _ C hP _ hl => w_XR_instruction_0 C hJ h hP va_S.rf hl)
def m_XR_interrupt (σ : tc_S) (l1 : Int32) : Option (Int32 × tc_S) := ((m_XR_exception σ (24 + l1)).bind (fun q5 => (some (44, (tc_sf (tc_sf q5 2 l1) 7 0)))))
set_option maxHeartbeats 4000000 in
set_option maxRecDepth 100000 in
theorem w_XR_interrupt_0 (C : tc_C p s m args meth c RXR cXR_interrupt 2 (some .int) D cA) (hJ : ∀ σ, va_D A (tc_rW ad cA σ)) {q : Int32 × tc_S} {σ : tc_S} {l1 : Int32} {H : Heap} {locs : List Loc} {ls : Array Slot} (h : m_XR_interrupt σ l1 = some q) (hP : va_P D vwCl (tc_rW ad cA σ) H) (hS : va_S A s.heap H locs) (hl : lv_has ls 2 [(0, .ref (ad 0)), (1, .int l1)]) : W p l e (tc_R 5) s m args below meth c H locs 0 0 (MQ below (tc_Qi D (tc_rW ad cA q.2) A q.1) args s 0 0 A) (F0 m 0 ls []) := by
  have C0 := C
  obtain ⟨hx, hb, hml, hown, ⟨hK, hN⟩, hr, hlk⟩ := C
  unfold m_XR_interrupt at h
  refine lv_aload_n hx hb dXR_interrupt_0 rfl (lv_at hl 0 rfl) ?_
  refine lv_bipush (v := 24) hx hb dXR_interrupt_1 (by decide) ?_
  refine lv_iload_n hx hb dXR_interrupt_3 rfl (lv_at hl 1 rfl) ?_
  refine lv_iadd hx hb dXR_interrupt_4 ?_
  obtain ⟨q5, e5, h⟩ := tc_bd_some h
  refine tc_cVv (As := [.int (24 + l1)]) (rest := []) C0 (k_XR_exception hJ e5) tv_XR_232 (by decide) (by decide) hP hS hl 0 rfl rfl (Nat.le_of_ble_eq_true rfl) dXR_interrupt_5 rfl (fun H locs hP hS => ?_)
  refine lv_aload_n hx hb dXR_interrupt_8 rfl (lv_at hl 0 rfl) ?_
  refine lv_iload_n hx hb dXR_interrupt_9 rfl (lv_at hl 1 rfl) ?_
  refine tc_rp2 C0 hJ hP hS (tc_use hN tw_626) dXR_interrupt_10 (fun H locs hP hS => ?_)
  refine lv_aload_n hx hb dXR_interrupt_13 rfl (lv_at hl 0 rfl) ?_
  refine lv_iconst (v := 0) hx hb dXR_interrupt_14 (by decide) ?_
  refine tc_rp7 C0 hJ hP hS (tc_use hN tw_631) ⟨by decide, by decide⟩ dXR_interrupt_15 (fun H locs hP hS => ?_)
  refine lv_bipush (v := 44) hx hb dXR_interrupt_18 (by decide) ?_
  exact tc_rri C0 hP hS h dXR_interrupt_20
theorem k_XR_interrupt (hJ : ∀ σ, va_D A (tc_rW ad cA σ)) {σ : tc_S} {l1 : Int32} {q : Int32 × tc_S} (h : m_XR_interrupt σ l1 = some q) : Met l yXR_interrupt [.code yXR_interrupt cXR_interrupt 2 (some .int)] (tc_R 5) (tc_Pc D cA (tc_rW ad cA σ) [.ref (ad 0), .int l1]) (tc_Qi D (tc_rW ad cA q.2) A q.1) 0 0 A :=
  tc_met (by decide) (Nat.le_of_ble_eq_true rfl) (fun _ _ _ _ _ _ _ C hP _ hl => w_XR_interrupt_0 C hJ h hP va_S.rf hl)
def m_XR_moveWord_74 (σ : tc_S) : Option (tc_S) := (some σ)
set_option maxHeartbeats 4000000 in
set_option maxRecDepth 100000 in
theorem w_XR_moveWord_74 (C : tc_C p s m args meth c RXR cXR_moveWord 1 none D cA) (hJ : ∀ σ, va_D A (tc_rW ad cA σ)) {q : tc_S} {σ : tc_S} {H : Heap} {locs : List Loc} {ls : Array Slot} (h : m_XR_moveWord_74 σ = some q) (hP : va_P D vwCl (tc_rW ad cA σ) H) (hS : va_S A s.heap H locs) (hl : lv_has ls 1 []) : W p l e (tc_R 2) s m args below meth c H locs 0 0 (MQ below (tc_Qv D (tc_rW ad cA q) A) args s 0 0 A) (F0 m 74 ls []) := by
  have C0 := C
  obtain ⟨hx, hb, hml, hown, ⟨hK, hN⟩, hr, hlk⟩ := C
  unfold m_XR_moveWord_74 at h
  exact tc_rrv C0 hP hS h dXR_moveWord_74
def m_XR_moveWord_23 (σ : tc_S) (k0 : Int32) : Option (tc_S) := ((m_XR_put σ k0).bind (fun q23 => (if (tc_gf (tc_sf (tc_sf q23 24 ((((tc_gf q23 24) / 1024) * 1024) + (((tc_gf q23 24) + 2) - ((tc_gf q23 24) + 2) / 1024 * 1024))) 23 ((tc_gf (tc_sf q23 24 ((((tc_gf q23 24) / 1024) * 1024) + (((tc_gf q23 24) + 2) - ((tc_gf q23 24) + 2) / 1024 * 1024))) 23) - 1)) 23) = 0 then ((m_XR_endMove (tc_sf (tc_sf q23 24 ((((tc_gf q23 24) / 1024) * 1024) + (((tc_gf q23 24) + 2) - ((tc_gf q23 24) + 2) / 1024 * 1024))) 23 ((tc_gf (tc_sf q23 24 ((((tc_gf q23 24) / 1024) * 1024) + (((tc_gf q23 24) + 2) - ((tc_gf q23 24) + 2) / 1024 * 1024))) 23) - 1))).bind (fun q71 => (m_XR_moveWord_74 q71))) else (m_XR_moveWord_74 (tc_sf (tc_sf q23 24 ((((tc_gf q23 24) / 1024) * 1024) + (((tc_gf q23 24) + 2) - ((tc_gf q23 24) + 2) / 1024 * 1024))) 23 ((tc_gf (tc_sf q23 24 ((((tc_gf q23 24) / 1024) * 1024) + (((tc_gf q23 24) + 2) - ((tc_gf q23 24) + 2) / 1024 * 1024))) 23) - 1))))))
set_option maxHeartbeats 4000000 in
set_option maxRecDepth 100000 in
theorem w_XR_moveWord_23 (C : tc_C p s m args meth c RXR cXR_moveWord 1 none D cA) (hJ : ∀ σ, va_D A (tc_rW ad cA σ)) {q : tc_S} {σ : tc_S} {k0 : Int32} {H : Heap} {locs : List Loc} {ls : Array Slot} (h : m_XR_moveWord_23 σ k0 = some q) (hP : va_P D vwCl (tc_rW ad cA σ) H) (hS : va_S A s.heap H locs) (hl : lv_has ls 1 [(0, .ref (ad 0))]) : W p l e (tc_R 2) s m args below meth c H locs 0 0 (MQ below (tc_Qv D (tc_rW ad cA q) A) args s 0 0 A) (F0 m 23 ls [.int k0, .ref (ad 0)]) := by
  have C0 := C
  obtain ⟨hx, hb, hml, hown, ⟨hK, hN⟩, hr, hlk⟩ := C
  unfold m_XR_moveWord_23 at h
  obtain ⟨q23, e23, h⟩ := tc_bd_some h
  refine tc_cVv (As := [.int k0]) (rest := []) C0 (k_XR_put hJ e23) tv_XR_141 (by decide) (by decide) hP hS hl 0 rfl rfl (Nat.le_of_ble_eq_true rfl) dXR_moveWord_23 rfl (fun H locs hP hS => ?_)
  refine lv_aload_n hx hb dXR_moveWord_26 rfl (lv_at hl 0 rfl) ?_
  refine lv_aload_n hx hb dXR_moveWord_27 rfl (lv_at hl 0 rfl) ?_
  refine tc_rg24 C0 hP (tc_use hN tw_659) dXR_moveWord_28 ?_
  refine lv_sipush (v := 1024) hx hb dXR_moveWord_31 (by decide) ?_
  refine lv_idiv hx hb dXR_moveWord_34 (by decide) ?_
  refine lv_sipush (v := 1024) hx hb dXR_moveWord_35 (by decide) ?_
  refine lv_imul hx hb dXR_moveWord_38 ?_
  refine lv_aload_n hx hb dXR_moveWord_39 rfl (lv_at hl 0 rfl) ?_
  refine tc_rg24 C0 hP (tc_use hN tw_659) dXR_moveWord_40 ?_
  refine lv_iconst (v := 2) hx hb dXR_moveWord_43 (by decide) ?_
  refine lv_iadd hx hb dXR_moveWord_44 ?_
  refine lv_sipush (v := 1024) hx hb dXR_moveWord_45 (by decide) ?_
  refine lv_irem hx hb dXR_moveWord_48 (by decide) ?_
  refine lv_iadd hx hb dXR_moveWord_49 ?_
  refine tc_rp24 C0 hJ hP hS (tc_use hN tw_659) dXR_moveWord_50 (fun H locs hP hS => ?_)
  refine lv_aload_n hx hb dXR_moveWord_53 rfl (lv_at hl 0 rfl) ?_
  refine lv_dup hx hb dXR_moveWord_54 rfl ?_
  refine tc_rg23 C0 hP (tc_use hN tw_658) dXR_moveWord_55 ?_
  refine lv_iconst (v := 1) hx hb dXR_moveWord_58 (by decide) ?_
  refine lv_isub hx hb dXR_moveWord_59 ?_
  refine tc_rp23 C0 hJ hP hS (tc_use hN tw_658) dXR_moveWord_60 (fun H locs hP hS => ?_)
  refine lv_aload_n hx hb dXR_moveWord_63 rfl (lv_at hl 0 rfl) ?_
  refine tc_rg23 C0 hP (tc_use hN tw_658) dXR_moveWord_64 ?_
  refine lv_if_ne (tgt := 74) hx hb dXR_moveWord_67 (by decide) (fun hc => ?_) (fun hc => ?_)
  · have h := tc_in hc h
    exact w_XR_moveWord_74 C0 hJ h hP hS (lv_sub hl [] rfl)
  · have h := tc_ip hc h
    refine lv_aload_n hx hb dXR_moveWord_70 rfl (lv_at hl 0 rfl) ?_
    obtain ⟨q71, e71, h⟩ := tc_bd_some h
    refine tc_cVv (As := []) (rest := []) C0 (k_XR_endMove hJ e71) tv_XR_150 (by decide) (by decide) hP hS hl 0 rfl rfl (Nat.le_of_ble_eq_true rfl) dXR_moveWord_71 rfl (fun H locs hP hS => ?_)
    exact w_XR_moveWord_74 C0 hJ h hP hS (lv_sub hl [] rfl)
def m_XR_moveWord (σ : tc_S) : Option (tc_S) := (if 768 ≤ (tc_gf σ 24) then (m_XR_moveWord_23 σ 0) else ((m_XR_quiet σ (tc_gf σ 24)).bind (fun q16 => (m_XR_moveWord_23 q16.2 q16.1))))
set_option maxHeartbeats 4000000 in
set_option maxRecDepth 100000 in
theorem w_XR_moveWord_0 (C : tc_C p s m args meth c RXR cXR_moveWord 1 none D cA) (hJ : ∀ σ, va_D A (tc_rW ad cA σ)) {q : tc_S} {σ : tc_S} {H : Heap} {locs : List Loc} {ls : Array Slot} (h : m_XR_moveWord σ = some q) (hP : va_P D vwCl (tc_rW ad cA σ) H) (hS : va_S A s.heap H locs) (hl : lv_has ls 1 [(0, .ref (ad 0))]) : W p l e (tc_R 2) s m args below meth c H locs 0 0 (MQ below (tc_Qv D (tc_rW ad cA q) A) args s 0 0 A) (F0 m 0 ls []) := by
  have C0 := C
  obtain ⟨hx, hb, hml, hown, ⟨hK, hN⟩, hr, hlk⟩ := C
  unfold m_XR_moveWord at h
  refine lv_aload_n hx hb dXR_moveWord_0 rfl (lv_at hl 0 rfl) ?_
  refine lv_aload_n hx hb dXR_moveWord_1 rfl (lv_at hl 0 rfl) ?_
  refine tc_rg24 C0 hP (tc_use hN tw_659) dXR_moveWord_2 ?_
  refine lv_sipush (v := 768) hx hb dXR_moveWord_5 (by decide) ?_
  refine lv_icmp_ge (tgt := 22) hx hb dXR_moveWord_8 (by decide) (fun hc => ?_) (fun hc => ?_)
  · have h := tc_ip hc h
    refine lv_iconst (v := 0) hx hb dXR_moveWord_22 (by decide) ?_
    exact w_XR_moveWord_23 C0 hJ h hP hS (lv_sub hl [0] rfl)
  · have h := tc_in hc h
    refine lv_aload_n hx hb dXR_moveWord_11 rfl (lv_at hl 0 rfl) ?_
    refine lv_aload_n hx hb dXR_moveWord_12 rfl (lv_at hl 0 rfl) ?_
    refine tc_rg24 C0 hP (tc_use hN tw_659) dXR_moveWord_13 ?_
    obtain ⟨q16, e16, h⟩ := tc_bd_some h
    refine tc_cVi (As := [.int (tc_gf σ 24)]) (rest := [.ref (ad 0)]) C0 (k_XR_quiet hJ e16) tv_XR_76 (by decide) (by decide) hP hS hl 0 rfl rfl (Nat.le_of_ble_eq_true rfl) dXR_moveWord_16 rfl (fun H locs hP hS => ?_)
    refine lv_goto (tgt := 23) hx hb dXR_moveWord_19 (by decide) ?_
    exact w_XR_moveWord_23 C0 hJ h hP hS (lv_sub hl [0] rfl)
theorem k_XR_moveWord (hJ : ∀ σ, va_D A (tc_rW ad cA σ)) {σ : tc_S} {q : tc_S} (h : m_XR_moveWord σ = some q) : Met l yXR_moveWord [.code yXR_moveWord cXR_moveWord 1 none] (tc_R 2) (tc_Pc D cA (tc_rW ad cA σ) [.ref (ad 0)]) (tc_Qv D (tc_rW ad cA q) A) 0 0 A :=
  tc_met (by decide) (Nat.le_of_ble_eq_true rfl) (fun _ _ _ _ _ _ _ C hP _ hl => w_XR_moveWord_0 C hJ h hP va_S.rf hl)
def m_XR_mainStep_67 (σ : tc_S) : Option (Int32 × tc_S) := (if (tc_gf σ 7) = 0 then ((m_XR_instruction (tc_sf (tc_sf σ 34 (tc_gf σ 18)) 18 0)).bind (fun q90 => (some (q90.1, q90.2)))) else (some (4, σ)))
set_option maxHeartbeats 4000000 in
set_option maxRecDepth 100000 in
theorem w_XR_mainStep_67 (C : tc_C p s m args meth c RXR cXR_mainStep 1 (some .int) D cA) (hJ : ∀ σ, va_D A (tc_rW ad cA σ)) {q : Int32 × tc_S} {σ : tc_S} {H : Heap} {locs : List Loc} {ls : Array Slot} (h : m_XR_mainStep_67 σ = some q) (hP : va_P D vwCl (tc_rW ad cA σ) H) (hS : va_S A s.heap H locs) (hl : lv_has ls 1 [(0, .ref (ad 0))]) : W p l e (tc_R 6) s m args below meth c H locs 0 0 (MQ below (tc_Qi D (tc_rW ad cA q.2) A q.1) args s 0 0 A) (F0 m 67 ls []) := by
  have C0 := C
  obtain ⟨hx, hb, hml, hown, ⟨hK, hN⟩, hr, hlk⟩ := C
  unfold m_XR_mainStep_67 at h
  refine lv_aload_n hx hb dXR_mainStep_67 rfl (lv_at hl 0 rfl) ?_
  refine tc_rg7 C0 hP (tc_use hN tw_631) dXR_mainStep_68 ?_
  refine lv_if_eq (tgt := 76) hx hb dXR_mainStep_71 (by decide) (fun hc => ?_) (fun hc => ?_)
  · have h := tc_ip hc h
    refine lv_aload_n hx hb dXR_mainStep_76 rfl (lv_at hl 0 rfl) ?_
    refine lv_aload_n hx hb dXR_mainStep_77 rfl (lv_at hl 0 rfl) ?_
    refine tc_rg18 C0 hP (tc_use hN tw_632) dXR_mainStep_78 ?_
    refine tc_rp34 C0 hJ hP hS (tc_use hN tw_633) dXR_mainStep_81 (fun H locs hP hS => ?_)
    refine lv_aload_n hx hb dXR_mainStep_84 rfl (lv_at hl 0 rfl) ?_
    refine lv_iconst (v := 0) hx hb dXR_mainStep_85 (by decide) ?_
    refine tc_rp18 C0 hJ hP hS (tc_use hN tw_632) dXR_mainStep_86 (fun H locs hP hS => ?_)
    refine lv_aload_n hx hb dXR_mainStep_89 rfl (lv_at hl 0 rfl) ?_
    obtain ⟨q90, e90, h⟩ := tc_bd_some h
    refine tc_cVi (As := []) (rest := []) C0 (k_XR_instruction hJ e90) tv_XR_250 (by decide) (by decide) hP hS hl 0 rfl rfl (Nat.le_of_ble_eq_true rfl) dXR_mainStep_90 rfl (fun H locs hP hS => ?_)
    exact tc_rri C0 hP hS h dXR_mainStep_93
  · have h := tc_in hc h
    refine lv_iconst (v := 4) hx hb dXR_mainStep_74 (by decide) ?_
    exact tc_rri C0 hP hS h dXR_mainStep_75
def m_XR_mainStep_41 (σ : tc_S) : Option (Int32 × tc_S) := (if (tc_gf σ 30) = 0 then (m_XR_mainStep_67 σ) else (if 4 ≤ (tc_gf σ 2) then (m_XR_mainStep_67 σ) else ((m_XR_interrupt (tc_sf σ 30 0) 4).bind (fun q63 => (some (q63.1, q63.2))))))
set_option maxHeartbeats 4000000 in
set_option maxRecDepth 100000 in
theorem w_XR_mainStep_41 (C : tc_C p s m args meth c RXR cXR_mainStep 1 (some .int) D cA) (hJ : ∀ σ, va_D A (tc_rW ad cA σ)) {q : Int32 × tc_S} {σ : tc_S} {H : Heap} {locs : List Loc} {ls : Array Slot} (h : m_XR_mainStep_41 σ = some q) (hP : va_P D vwCl (tc_rW ad cA σ) H) (hS : va_S A s.heap H locs) (hl : lv_has ls 1 [(0, .ref (ad 0))]) : W p l e (tc_R 6) s m args below meth c H locs 0 0 (MQ below (tc_Qi D (tc_rW ad cA q.2) A q.1) args s 0 0 A) (F0 m 41 ls []) := by
  have C0 := C
  obtain ⟨hx, hb, hml, hown, ⟨hK, hN⟩, hr, hlk⟩ := C
  unfold m_XR_mainStep_41 at h
  refine lv_aload_n hx hb dXR_mainStep_41 rfl (lv_at hl 0 rfl) ?_
  refine tc_rg30 C0 hP (tc_use hN tw_634) dXR_mainStep_42 ?_
  refine lv_if_eq (tgt := 67) hx hb dXR_mainStep_45 (by decide) (fun hc => ?_) (fun hc => ?_)
  · have h := tc_ip hc h
    exact w_XR_mainStep_67 C0 hJ h hP hS (lv_sub hl [0] rfl)
  · have h := tc_in hc h
    refine lv_aload_n hx hb dXR_mainStep_48 rfl (lv_at hl 0 rfl) ?_
    refine tc_rg2 C0 hP (tc_use hN tw_626) dXR_mainStep_49 ?_
    refine lv_iconst (v := 4) hx hb dXR_mainStep_52 (by decide) ?_
    refine lv_icmp_ge (tgt := 67) hx hb dXR_mainStep_53 (by decide) (fun hc => ?_) (fun hc => ?_)
    · have h := tc_ip hc h
      exact w_XR_mainStep_67 C0 hJ h hP hS (lv_sub hl [0] rfl)
    · have h := tc_in hc h
      refine lv_aload_n hx hb dXR_mainStep_56 rfl (lv_at hl 0 rfl) ?_
      refine lv_iconst (v := 0) hx hb dXR_mainStep_57 (by decide) ?_
      refine tc_rp30 C0 hJ hP hS (tc_use hN tw_634) ⟨by decide, by decide⟩ dXR_mainStep_58 (fun H locs hP hS => ?_)
      refine lv_aload_n hx hb dXR_mainStep_61 rfl (lv_at hl 0 rfl) ?_
      refine lv_iconst (v := 4) hx hb dXR_mainStep_62 (by decide) ?_
      obtain ⟨q63, e63, h⟩ := tc_bd_some h
      refine tc_cVi (As := [.int 4]) (rest := []) C0 (k_XR_interrupt hJ e63) tv_XR_238 (by decide) (by decide) hP hS hl 0 rfl rfl (Nat.le_of_ble_eq_true rfl) dXR_mainStep_63 rfl (fun H locs hP hS => ?_)
      exact tc_rri C0 hP hS h dXR_mainStep_66
def m_XR_mainStep (σ : tc_S) : Option (Int32 × tc_S) := (if (tc_gf σ 23) ≤ 0 then (if (tc_gf σ 31) = 0 then (m_XR_mainStep_41 σ) else (if 6 ≤ (tc_gf σ 2) then (m_XR_mainStep_41 σ) else ((m_XR_interrupt (tc_sf σ 31 0) 6).bind (fun q37 => (some (q37.1, q37.2)))))) else ((m_XR_moveWord σ).bind (fun q8 => (some (2, q8)))))
set_option maxHeartbeats 4000000 in
set_option maxRecDepth 100000 in
theorem w_XR_mainStep_0 (C : tc_C p s m args meth c RXR cXR_mainStep 1 (some .int) D cA) (hJ : ∀ σ, va_D A (tc_rW ad cA σ)) {q : Int32 × tc_S} {σ : tc_S} {H : Heap} {locs : List Loc} {ls : Array Slot} (h : m_XR_mainStep σ = some q) (hP : va_P D vwCl (tc_rW ad cA σ) H) (hS : va_S A s.heap H locs) (hl : lv_has ls 1 [(0, .ref (ad 0))]) : W p l e (tc_R 6) s m args below meth c H locs 0 0 (MQ below (tc_Qi D (tc_rW ad cA q.2) A q.1) args s 0 0 A) (F0 m 0 ls []) := by
  have C0 := C
  obtain ⟨hx, hb, hml, hown, ⟨hK, hN⟩, hr, hlk⟩ := C
  unfold m_XR_mainStep at h
  refine lv_aload_n hx hb dXR_mainStep_0 rfl (lv_at hl 0 rfl) ?_
  refine tc_rg23 C0 hP (tc_use hN tw_658) dXR_mainStep_1 ?_
  refine lv_if_le (tgt := 13) hx hb dXR_mainStep_4 (by decide) (fun hc => ?_) (fun hc => ?_)
  · have h := tc_ip hc h
    refine lv_aload_n hx hb dXR_mainStep_13 rfl (lv_at hl 0 rfl) ?_
    refine tc_rg31 C0 hP (tc_use hN tw_635) dXR_mainStep_14 ?_
    refine lv_if_eq (tgt := 41) hx hb dXR_mainStep_17 (by decide) (fun hc => ?_) (fun hc => ?_)
    · have h := tc_ip hc h
      exact w_XR_mainStep_41 C0 hJ h hP hS (lv_sub hl [0] rfl)
    · have h := tc_in hc h
      refine lv_aload_n hx hb dXR_mainStep_20 rfl (lv_at hl 0 rfl) ?_
      refine tc_rg2 C0 hP (tc_use hN tw_626) dXR_mainStep_21 ?_
      refine lv_bipush (v := 6) hx hb dXR_mainStep_24 (by decide) ?_
      refine lv_icmp_ge (tgt := 41) hx hb dXR_mainStep_26 (by decide) (fun hc => ?_) (fun hc => ?_)
      · have h := tc_ip hc h
        exact w_XR_mainStep_41 C0 hJ h hP hS (lv_sub hl [0] rfl)
      · have h := tc_in hc h
        refine lv_aload_n hx hb dXR_mainStep_29 rfl (lv_at hl 0 rfl) ?_
        refine lv_iconst (v := 0) hx hb dXR_mainStep_30 (by decide) ?_
        refine tc_rp31 C0 hJ hP hS (tc_use hN tw_635) ⟨by decide, by decide⟩ dXR_mainStep_31 (fun H locs hP hS => ?_)
        refine lv_aload_n hx hb dXR_mainStep_34 rfl (lv_at hl 0 rfl) ?_
        refine lv_bipush (v := 6) hx hb dXR_mainStep_35 (by decide) ?_
        obtain ⟨q37, e37, h⟩ := tc_bd_some h
        refine tc_cVi (As := [.int 6]) (rest := []) C0 (k_XR_interrupt hJ e37) tv_XR_238 (by decide) (by decide) hP hS hl 0 rfl rfl (Nat.le_of_ble_eq_true rfl) dXR_mainStep_37 rfl (fun H locs hP hS => ?_)
        exact tc_rri C0 hP hS h dXR_mainStep_40
  · have h := tc_in hc h
    refine lv_aload_n hx hb dXR_mainStep_7 rfl (lv_at hl 0 rfl) ?_
    obtain ⟨q8, e8, h⟩ := tc_bd_some h
    refine tc_cVv (As := []) (rest := []) C0 (k_XR_moveWord hJ e8) tv_XR_235 (by decide) (by decide) hP hS hl 0 rfl rfl (Nat.le_of_ble_eq_true rfl) dXR_mainStep_8 rfl (fun H locs hP hS => ?_)
    refine lv_iconst (v := 2) hx hb dXR_mainStep_11 (by decide) ?_
    exact tc_rri C0 hP hS h dXR_mainStep_12
theorem k_XR_mainStep (hJ : ∀ σ, va_D A (tc_rW ad cA σ)) {σ : tc_S} {q : Int32 × tc_S} (h : m_XR_mainStep σ = some q) : Met l yXR_mainStep [.code yXR_mainStep cXR_mainStep 1 (some .int)] (tc_R 6) (tc_Pc D cA (tc_rW ad cA σ) [.ref (ad 0)]) (tc_Qi D (tc_rW ad cA q.2) A q.1) 0 0 A :=
  tc_met (by decide) (Nat.le_of_ble_eq_true rfl) (fun _ _ _ _ _ _ _ C hP _ hl => w_XR_mainStep_0 C hJ h hP va_S.rf hl)
def m_XR_load (σ : tc_S) (l1 : Int32) : Option (Int32 × tc_S) := (if 32768 ≤ l1 then (tc_gd (l1 - l1 / 512 * 512) 512 (some ((tc_ga (tc_sf (tc_sf σ 35 ((tc_gf σ 35) + 3)) 18 ((tc_gf (tc_sf σ 35 ((tc_gf σ 35) + 3)) 18) + 11)) 7 (l1 - l1 / 512 * 512)), (tc_sf (tc_sf σ 35 ((tc_gf σ 35) + 3)) 18 ((tc_gf (tc_sf σ 35 ((tc_gf σ 35) + 3)) 18) + 11))))) else (tc_gd (l1 - l1 / 128 * 128) 128 (some ((tc_ga σ 1 (l1 - l1 / 128 * 128)), σ))))
set_option maxHeartbeats 4000000 in
set_option maxRecDepth 100000 in
theorem w_XR_load_0 (C : tc_C p s m args meth c RXR cXR_load 2 (some .int) D cA) (hJ : ∀ σ, va_D A (tc_rW ad cA σ)) {q : Int32 × tc_S} {σ : tc_S} {l1 : Int32} {H : Heap} {locs : List Loc} {ls : Array Slot} (h : m_XR_load σ l1 = some q) (hP : va_P D vwCl (tc_rW ad cA σ) H) (hS : va_S A s.heap H locs) (hl : lv_has ls 2 [(0, .ref (ad 0)), (1, .int l1)]) : W p l e (tc_R 0) s m args below meth c H locs 0 0 (MQ below (tc_Qi D (tc_rW ad cA q.2) A q.1) args s 0 0 A) (F0 m 0 ls []) := by
  have C0 := C
  obtain ⟨hx, hb, hml, hown, ⟨hK, hN⟩, hr, hlk⟩ := C
  unfold m_XR_load at h
  refine lv_iload_n hx hb dXR_load_0 rfl (lv_at hl 1 rfl) ?_
  refine lv_ldc (v := 32768) hx hb hown (tc_use hN tw_876) dXR_load_1 ?_
  refine lv_icmp_ge (tgt := 17) hx hb dXR_load_3 (by decide) (fun hc => ?_) (fun hc => ?_)
  · have h := tc_ip hc h
    refine lv_aload_n hx hb dXR_load_17 rfl (lv_at hl 0 rfl) ?_
    refine lv_dup hx hb dXR_load_18 rfl ?_
    refine tc_rg35 C0 hP (tc_use hN tw_649) dXR_load_19 ?_
    refine lv_iconst (v := 3) hx hb dXR_load_22 (by decide) ?_
    refine lv_iadd hx hb dXR_load_23 ?_
    refine tc_rp35 C0 hJ hP hS (tc_use hN tw_649) dXR_load_24 (fun H locs hP hS => ?_)
    refine lv_aload_n hx hb dXR_load_27 rfl (lv_at hl 0 rfl) ?_
    refine lv_dup hx hb dXR_load_28 rfl ?_
    refine tc_rg18 C0 hP (tc_use hN tw_632) dXR_load_29 ?_
    refine lv_bipush (v := 11) hx hb dXR_load_32 (by decide) ?_
    refine lv_iadd hx hb dXR_load_34 ?_
    refine tc_rp18 C0 hJ hP hS (tc_use hN tw_632) dXR_load_35 (fun H locs hP hS => ?_)
    refine lv_aload_n hx hb dXR_load_38 rfl (lv_at hl 0 rfl) ?_
    refine tc_rr_XR_rom C0 hP (tc_use hN tw_621) dXR_load_39 ?_
    refine lv_iload_n hx hb dXR_load_42 rfl (lv_at hl 1 rfl) ?_
    refine lv_sipush (v := 512) hx hb dXR_load_43 (by decide) ?_
    refine lv_irem hx hb dXR_load_46 (by decide) ?_
    obtain ⟨hi, h⟩ := tc_gd_some h
    refine tc_rld1 C0 hP hi dXR_load_47 ?_
    exact tc_rri C0 hP hS h dXR_load_48
  · have h := tc_in hc h
    refine lv_aload_n hx hb dXR_load_6 rfl (lv_at hl 0 rfl) ?_
    refine tc_rr_XR_bytes C0 hP (tc_use hN tw_638) dXR_load_7 ?_
    refine lv_iload_n hx hb dXR_load_10 rfl (lv_at hl 1 rfl) ?_
    refine lv_sipush (v := 128) hx hb dXR_load_11 (by decide) ?_
    refine lv_irem hx hb dXR_load_14 (by decide) ?_
    obtain ⟨hi, h⟩ := tc_gd_some h
    refine tc_rld4 C0 hP hi dXR_load_15 ?_
    exact tc_rri C0 hP hS h dXR_load_16
theorem k_XR_load (hJ : ∀ σ, va_D A (tc_rW ad cA σ)) {σ : tc_S} {l1 : Int32} {q : Int32 × tc_S} (h : m_XR_load σ l1 = some q) : Met l yXR_load [.code yXR_load cXR_load 2 (some .int)] (tc_R 0) (tc_Pc D cA (tc_rW ad cA σ) [.ref (ad 0), .int l1]) (tc_Qi D (tc_rW ad cA q.2) A q.1) 0 0 A :=
  tc_met (by decide) (Nat.le_of_ble_eq_true rfl) (fun _ _ _ _ _ _ _ C hP _ hl => w_XR_load_0 C hJ h hP va_S.rf hl)
def m_XR_next (σ : tc_S) : Option (Int32 × tc_S) := ((m_XR_load σ (tc_gf σ 11)).bind (fun q5 => (some (q5.1, (tc_sf q5.2 11 (((tc_gf q5.2 11) + 1) &&& 65535))))))
set_option maxHeartbeats 4000000 in
set_option maxRecDepth 100000 in
theorem w_XR_next_0 (C : tc_C p s m args meth c RXR cXR_next 2 (some .int) D cA) (hJ : ∀ σ, va_D A (tc_rW ad cA σ)) {q : Int32 × tc_S} {σ : tc_S} {H : Heap} {locs : List Loc} {ls : Array Slot} (h : m_XR_next σ = some q) (hP : va_P D vwCl (tc_rW ad cA σ) H) (hS : va_S A s.heap H locs) (hl : lv_has ls 2 [(0, .ref (ad 0))]) : W p l e (tc_R 1) s m args below meth c H locs 0 0 (MQ below (tc_Qi D (tc_rW ad cA q.2) A q.1) args s 0 0 A) (F0 m 0 ls []) := by
  have C0 := C
  obtain ⟨hx, hb, hml, hown, ⟨hK, hN⟩, hr, hlk⟩ := C
  unfold m_XR_next at h
  refine lv_aload_n hx hb dXR_next_0 rfl (lv_at hl 0 rfl) ?_
  refine lv_aload_n hx hb dXR_next_1 rfl (lv_at hl 0 rfl) ?_
  refine tc_rg11 C0 hP (tc_use hN tw_642) dXR_next_2 ?_
  obtain ⟨q5, e5, h⟩ := tc_bd_some h
  refine tc_cVi (As := [.int (tc_gf σ 11)]) (rest := []) C0 (k_XR_load hJ e5) tv_XR_256 (by decide) (by decide) hP hS hl 0 rfl rfl (Nat.le_of_ble_eq_true rfl) dXR_next_5 rfl (fun H locs hP hS => ?_)
  refine lv_istore_n (lv' := [(1, .int q5.1), (0, .ref (ad 0))]) hx hb dXR_next_8 rfl hl (by decide) rfl (fun ls hl => ?_)
  refine lv_aload_n hx hb dXR_next_9 rfl (lv_at hl 1 rfl) ?_
  refine lv_aload_n hx hb dXR_next_10 rfl (lv_at hl 1 rfl) ?_
  refine tc_rg11 C0 hP (tc_use hN tw_642) dXR_next_11 ?_
  refine lv_iconst (v := 1) hx hb dXR_next_14 (by decide) ?_
  refine lv_iadd hx hb dXR_next_15 ?_
  refine lv_ldc (v := 65535) hx hb hown (tc_use hN tw_807) dXR_next_16 ?_
  refine lv_iand hx hb dXR_next_18 ?_
  refine tc_rp11 C0 hJ hP hS (tc_use hN tw_642) dXR_next_19 (fun H locs hP hS => ?_)
  refine lv_iload_n hx hb dXR_next_22 rfl (lv_at hl 0 rfl) ?_
  exact tc_rri C0 hP hS h dXR_next_23
theorem k_XR_next (hJ : ∀ σ, va_D A (tc_rW ad cA σ)) {σ : tc_S} {q : Int32 × tc_S} (h : m_XR_next σ = some q) : Met l yXR_next [.code yXR_next cXR_next 2 (some .int)] (tc_R 1) (tc_Pc D cA (tc_rW ad cA σ) [.ref (ad 0)]) (tc_Qi D (tc_rW ad cA q.2) A q.1) 0 0 A :=
  tc_met (by decide) (Nat.le_of_ble_eq_true rfl) (fun _ _ _ _ _ _ _ C hP _ hl => w_XR_next_0 C hJ h hP va_S.rf hl)
end WALK_R_11
