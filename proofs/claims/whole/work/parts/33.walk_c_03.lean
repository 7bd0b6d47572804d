section WALK_C_03
variable {p : Program} {l : Launch} {e : Env} {s : State} {m : MethodId} {args : Array Value} {below : List Frame} {meth : Method} {c : Code} {D : va_G} {cA : ClassId} {A : Nat → Prop} {ad : Nat → Nat}
def m_XM_controlMachine (σ : tc_S) (l1 : Int32) : Option (Int32 × tc_S) := (if (l1 &&& 65528) = 20064 then (tc_gd (l1 &&& 7) 8 (some (4, (tc_sf σ 0 ((tc_ga σ 0 (l1 &&& 7)) &&& 65535))))) else (if l1 = 20081 then (some (4, σ)) else (if l1 = 20082 then ((m_XM_nextWord σ).bind (fun q60 => ((m_XM_setMaskAndFlags q60.2 q60.1).bind (fun q63 => (some (4, (tc_sf q63 7 1))))))) else (if l1 = 20083 then ((m_XU_readQuietly σ (tc_gf σ 0)).bind (fun q82 => ((m_XM_setMaskAndFlags q82.2 q82.1).bind (fun q85 => ((m_XU_readQuietly q85 (((tc_gf q85 0) + 4) &&& 65535)).bind (fun q102 => (some (20, (tc_sf (tc_sf q102.2 1 q102.1) 0 (((tc_gf (tc_sf q102.2 1 q102.1) 0) + 6) &&& 65535)))))))))) else (some (0, σ))))))
set_option maxHeartbeats 4000000 in
set_option maxRecDepth 100000 in
theorem w_XM_controlMachine_0 (C : tc_C p s m args meth c RXM cXM_controlMachine 2 (some .int) D cA) (hJ : ∀ σ, va_D A (tc_cW ad cA σ)) {q : Int32 × tc_S} {σ : tc_S} {l1 : Int32} {H : Heap} {locs : List Loc} {ls : Array Slot} (h : m_XM_controlMachine σ l1 = some q) (hP : va_P D vwCl (tc_cW ad cA σ) H) (hS : va_S A s.heap H locs) (hl : lv_has ls 2 [(0, .ref (ad 1)), (1, .int l1)]) : W p l e (tc_R 3) s m args below meth c H locs 0 0 (MQ below (tc_Qi D (tc_cW ad cA q.2) A q.1) args s 0 0 A) (F0 m 0 ls []) := by
  have C0 := C
  obtain ⟨hx, hb, hml, hown, ⟨hK, hN⟩, hr, hlk⟩ := C
  unfold m_XM_controlMachine at h
  refine lv_iload_n hx hb dXM_controlMachine_0 rfl (lv_at hl 1 rfl) ?_
  refine lv_ldc (v := 65528) hx hb hown (tc_use hN tw_464) dXM_controlMachine_1 ?_
  refine lv_iand hx hb dXM_controlMachine_3 ?_
  refine lv_sipush (v := 20064) hx hb dXM_controlMachine_4 (by decide) ?_
  refine lv_icmp_ne (tgt := 28) hx hb dXM_controlMachine_7 (by decide) (fun hc => ?_) (fun hc => ?_)
  · have h := tc_in hc h
    refine lv_iload_n hx hb dXM_controlMachine_28 rfl (lv_at hl 1 rfl) ?_
    by_cases hc0 : l1 = 20081
    · have h := tc_ip hc0 h
      refine lv_tableIn (off := 27) (tgt := 56) hx hb dXM_controlMachine_29 (by rw [hc0]; decide) (by rw [hc0]; decide) (by rw [hc0]; decide) (by decide) ?_
      refine lv_iconst (v := 4) hx hb dXM_controlMachine_56 (by decide) ?_
      exact tc_cri C0 hP hS h dXM_controlMachine_57
    have h := tc_in hc0 h
    by_cases hc1 : l1 = 20082
    · have h := tc_ip hc1 h
      refine lv_tableIn (off := 29) (tgt := 58) hx hb dXM_controlMachine_29 (by rw [hc1]; decide) (by rw [hc1]; decide) (by rw [hc1]; decide) (by decide) ?_
      refine lv_aload_n hx hb dXM_controlMachine_58 rfl (lv_at hl 0 rfl) ?_
      refine lv_aload_n hx hb dXM_controlMachine_59 rfl (lv_at hl 0 rfl) ?_
      obtain ⟨q60, e60, h⟩ := tc_bd_some h
      refine tc_cVi (As := []) (rest := [.ref (ad 1)]) C0 (k_XM_nextWord hJ e60) tv_XM_56 (by decide) (by decide) hP hS hl 1 rfl rfl (Nat.le_of_ble_eq_true rfl) dXM_controlMachine_60 rfl (fun H locs hP hS => ?_)
      obtain ⟨q63, e63, h⟩ := tc_bd_some h
      refine tc_cVv (As := [.int q60.1]) (rest := []) C0 (k_XM_setMaskAndFlags hJ e63) tv_XM_17 (by decide) (by decide) hP hS hl 1 rfl rfl (Nat.le_of_ble_eq_true rfl) dXM_controlMachine_63 rfl (fun H locs hP hS => ?_)
      refine lv_aload_n hx hb dXM_controlMachine_66 rfl (lv_at hl 0 rfl) ?_
      refine lv_iconst (v := 1) hx hb dXM_controlMachine_67 (by decide) ?_
      refine tc_cp7 C0 hJ hP hS (tc_use hN tw_243) ⟨by decide, by decide⟩ dXM_controlMachine_68 (fun H locs hP hS => ?_)
      refine lv_iconst (v := 4) hx hb dXM_controlMachine_71 (by decide) ?_
      exact tc_cri C0 hP hS h dXM_controlMachine_72
    have h := tc_in hc1 h
    by_cases hc2 : l1 = 20083
    · have h := tc_ip hc2 h
      refine lv_tableIn (off := 44) (tgt := 73) hx hb dXM_controlMachine_29 (by rw [hc2]; decide) (by rw [hc2]; decide) (by rw [hc2]; decide) (by decide) ?_
      refine lv_aload_n hx hb dXM_controlMachine_73 rfl (lv_at hl 0 rfl) ?_
      refine lv_aload_n hx hb dXM_controlMachine_74 rfl (lv_at hl 0 rfl) ?_
      refine tc_cr_XM_bus C0 hP (tc_use hN tw_230) dXM_controlMachine_75 ?_
      refine lv_aload_n hx hb dXM_controlMachine_78 rfl (lv_at hl 0 rfl) ?_
      refine tc_cg0 C0 hP (tc_use hN tw_233) dXM_controlMachine_79 ?_
      obtain ⟨q82, e82, h⟩ := tc_bd_some h
      refine tc_cVi (As := [.int (tc_gf σ 0)]) (rest := [.ref (ad 1)]) C0 (k_XU_readQuietly hJ e82) tv_XM_21 (by decide) (by decide) hP hS hl 6 rfl rfl (Nat.le_of_ble_eq_true rfl) dXM_controlMachine_82 rfl (fun H locs hP hS => ?_)
      obtain ⟨q85, e85, h⟩ := tc_bd_some h
      refine tc_cVv (As := [.int q82.1]) (rest := []) C0 (k_XM_setMaskAndFlags hJ e85) tv_XM_17 (by decide) (by decide) hP hS hl 1 rfl rfl (Nat.le_of_ble_eq_true rfl) dXM_controlMachine_85 rfl (fun H locs hP hS => ?_)
      refine lv_aload_n hx hb dXM_controlMachine_88 rfl (lv_at hl 0 rfl) ?_
      refine lv_aload_n hx hb dXM_controlMachine_89 rfl (lv_at hl 0 rfl) ?_
      refine tc_cr_XM_bus C0 hP (tc_use hN tw_230) dXM_controlMachine_90 ?_
      refine lv_aload_n hx hb dXM_controlMachine_93 rfl (lv_at hl 0 rfl) ?_
      refine tc_cg0 C0 hP (tc_use hN tw_233) dXM_controlMachine_94 ?_
      refine lv_iconst (v := 4) hx hb dXM_controlMachine_97 (by decide) ?_
      refine lv_iadd hx hb dXM_controlMachine_98 ?_
      refine lv_ldc (v := 65535) hx hb hown (tc_use hN tw_368) dXM_controlMachine_99 ?_
      refine lv_iand hx hb dXM_controlMachine_101 ?_
      obtain ⟨q102, e102, h⟩ := tc_bd_some h
      refine tc_cVi (As := [.int (((tc_gf q85 0) + 4) &&& 65535)]) (rest := [.ref (ad 1)]) C0 (k_XU_readQuietly hJ e102) tv_XM_21 (by decide) (by decide) hP hS hl 6 rfl rfl (Nat.le_of_ble_eq_true rfl) dXM_controlMachine_102 rfl (fun H locs hP hS => ?_)
      refine tc_cp1 C0 hJ hP hS (tc_use hN tw_235) dXM_controlMachine_105 (fun H locs hP hS => ?_)
      refine lv_aload_n hx hb dXM_controlMachine_108 rfl (lv_at hl 0 rfl) ?_
      refine lv_aload_n hx hb dXM_controlMachine_109 rfl (lv_at hl 0 rfl) ?_
      refine tc_cg0 C0 hP (tc_use hN tw_233) dXM_controlMachine_110 ?_
      refine lv_bipush (v := 6) hx hb dXM_controlMachine_113 (by decide) ?_
      refine lv_iadd hx hb dXM_controlMachine_115 ?_
      refine lv_ldc (v := 65535) hx hb hown (tc_use hN tw_368) dXM_controlMachine_116 ?_
      refine lv_iand hx hb dXM_controlMachine_118 ?_
      refine tc_cp0 C0 hJ hP hS (tc_use hN tw_233) dXM_controlMachine_119 (fun H locs hP hS => ?_)
      refine lv_bipush (v := 20) hx hb dXM_controlMachine_122 (by decide) ?_
      exact tc_cri C0 hP hS h dXM_controlMachine_124
    have h := tc_in hc2 h
    have hn0 := lv_neT (a := 20081) hc0 (by decide)
    have hn1 := lv_neT (a := 20082) hc1 (by decide)
    have hn2 := lv_neT (a := 20083) hc2 (by decide)
    refine lv_tableOut (tgt := 125) hx hb dXM_controlMachine_29 (by omega) (by decide) ?_
    refine lv_iconst (v := 0) hx hb dXM_controlMachine_125 (by decide) ?_
    exact tc_cri C0 hP hS h dXM_controlMachine_126
  · have h := tc_ip hc h
    refine lv_aload_n hx hb dXM_controlMachine_10 rfl (lv_at hl 0 rfl) ?_
    refine lv_aload_n hx hb dXM_controlMachine_11 rfl (lv_at hl 0 rfl) ?_
    refine tc_cr_XM_d C0 hP (tc_use hN tw_231) dXM_controlMachine_12 ?_
    refine lv_iload_n hx hb dXM_controlMachine_15 rfl (lv_at hl 1 rfl) ?_
    refine lv_bipush (v := 7) hx hb dXM_controlMachine_16 (by decide) ?_
    refine lv_iand hx hb dXM_controlMachine_18 ?_
    obtain ⟨hi, h⟩ := tc_gd_some h
    refine tc_cld9 C0 hP hi dXM_controlMachine_19 ?_
    refine lv_ldc (v := 65535) hx hb hown (tc_use hN tw_368) dXM_controlMachine_20 ?_
    refine lv_iand hx hb dXM_controlMachine_22 ?_
    refine tc_cp0 C0 hJ hP hS (tc_use hN tw_233) dXM_controlMachine_23 (fun H locs hP hS => ?_)
    refine lv_iconst (v := 4) hx hb dXM_controlMachine_26 (by decide) ?_
    exact tc_cri C0 hP hS h dXM_controlMachine_27
theorem k_XM_controlMachine (hJ : ∀ σ, va_D A (tc_cW ad cA σ)) {σ : tc_S} {l1 : Int32} {q : Int32 × tc_S} (h : m_XM_controlMachine σ l1 = some q) : Met l yXM_controlMachine [.code yXM_controlMachine cXM_controlMachine 2 (some .int)] (tc_R 3) (tc_Pc D cA (tc_cW ad cA σ) [.ref (ad 1), .int l1]) (tc_Qi D (tc_cW ad cA q.2) A q.1) 0 0 A :=
  tc_met (by decide) (Nat.le_of_ble_eq_true rfl) (fun _ _ _ _ _ _ _ C hP _ hl => w_XM_controlMachine_0 C hJ h hP va_S.rf hl)
def m_XM_conditionHolds_120 (σ : tc_S) : Option (Int32 × tc_S) := (some (0, σ))
set_option maxHeartbeats 4000000 in
set_option maxRecDepth 100000 in
theorem w_XM_conditionHolds_120 (C : tc_C p s m args meth c RXM cXM_conditionHolds 2 (some .boolean) D cA) (hJ : ∀ σ, va_D A (tc_cW ad cA σ)) {q : Int32 × tc_S} {σ : tc_S} {H : Heap} {locs : List Loc} {ls : Array Slot} (h : m_XM_conditionHolds_120 σ = some q) (hP : va_P D vwCl (tc_cW ad cA σ) H) (hS : va_S A s.heap H locs) (hl : lv_has ls 2 []) : W p l e (tc_R 0) s m args below meth c H locs 0 0 (MQ below (tc_Qi D (tc_cW ad cA q.2) A q.1) args s 0 0 A) (F0 m 120 ls []) := by
  have C0 := C
  obtain ⟨hx, hb, hml, hown, ⟨hK, hN⟩, hr, hlk⟩ := C
  unfold m_XM_conditionHolds_120 at h
  refine lv_iconst (v := 0) hx hb dXM_conditionHolds_120 (by decide) ?_
  exact tc_crz C0 hP hS ⟨by decide, by decide⟩ h dXM_conditionHolds_121
def m_XM_conditionHolds_78 (σ : tc_S) (k0 : Int32) : Option (Int32 × tc_S) := (tc_gb k0 (some (k0, σ)))
set_option maxHeartbeats 4000000 in
set_option maxRecDepth 100000 in
theorem w_XM_conditionHolds_78 (C : tc_C p s m args meth c RXM cXM_conditionHolds 2 (some .boolean) D cA) (hJ : ∀ σ, va_D A (tc_cW ad cA σ)) {q : Int32 × tc_S} {σ : tc_S} {k0 : Int32} {H : Heap} {locs : List Loc} {ls : Array Slot} (h : m_XM_conditionHolds_78 σ k0 = some q) (hP : va_P D vwCl (tc_cW ad cA σ) H) (hS : va_S A s.heap H locs) (hl : lv_has ls 2 []) : W p l e (tc_R 0) s m args below meth c H locs 0 0 (MQ below (tc_Qi D (tc_cW ad cA q.2) A q.1) args s 0 0 A) (F0 m 78 ls [.int k0]) := by
  have C0 := C
  obtain ⟨hx, hb, hml, hown, ⟨hK, hN⟩, hr, hlk⟩ := C
  unfold m_XM_conditionHolds_78 at h
  obtain ⟨hz, h⟩ := tc_gb_some h
  exact tc_crz C0 hP hS hz h dXM_conditionHolds_78
def m_XM_conditionHolds_96 (σ : tc_S) (k0 : Int32) : Option (Int32 × tc_S) := (tc_gb k0 (some (k0, σ)))
set_option maxHeartbeats 4000000 in
set_option maxRecDepth 100000 in
theorem w_XM_conditionHolds_96 (C : tc_C p s m args meth c RXM cXM_conditionHolds 2 (some .boolean) D cA) (hJ : ∀ σ, va_D A (tc_cW ad cA σ)) {q : Int32 × tc_S} {σ : tc_S} {k0 : Int32} {H : Heap} {locs : List Loc} {ls : Array Slot} (h : m_XM_conditionHolds_96 σ k0 = some q) (hP : va_P D vwCl (tc_cW ad cA σ) H) (hS : va_S A s.heap H locs) (hl : lv_has ls 2 []) : W p l e (tc_R 0) s m args below meth c H locs 0 0 (MQ below (tc_Qi D (tc_cW ad cA q.2) A q.1) args s 0 0 A) (F0 m 96 ls [.int k0]) := by
  have C0 := C
  obtain ⟨hx, hb, hml, hown, ⟨hK, hN⟩, hr, hlk⟩ := C
  unfold m_XM_conditionHolds_96 at h
  obtain ⟨hz, h⟩ := tc_gb_some h
  exact tc_crz C0 hP hS hz h dXM_conditionHolds_96
def m_XM_conditionHolds_114 (σ : tc_S) (k0 : Int32) : Option (Int32 × tc_S) := (tc_gb k0 (some (k0, σ)))
set_option maxHeartbeats 4000000 in
set_option maxRecDepth 100000 in
theorem w_XM_conditionHolds_114 (C : tc_C p s m args meth c RXM cXM_conditionHolds 2 (some .boolean) D cA) (hJ : ∀ σ, va_D A (tc_cW ad cA σ)) {q : Int32 × tc_S} {σ : tc_S} {k0 : Int32} {H : Heap} {locs : List Loc} {ls : Array Slot} (h : m_XM_conditionHolds_114 σ k0 = some q) (hP : va_P D vwCl (tc_cW ad cA σ) H) (hS : va_S A s.heap H locs) (hl : lv_has ls 2 []) : W p l e (tc_R 0) s m args below meth c H locs 0 0 (MQ below (tc_Qi D (tc_cW ad cA q.2) A q.1) args s 0 0 A) (F0 m 114 ls [.int k0]) := by
  have C0 := C
  obtain ⟨hx, hb, hml, hown, ⟨hK, hN⟩, hr, hlk⟩ := C
  unfold m_XM_conditionHolds_114 at h
  obtain ⟨hz, h⟩ := tc_gb_some h
  exact tc_crz C0 hP hS hz h dXM_conditionHolds_114
def m_XM_conditionHolds (σ : tc_S) (l1 : Int32) : Option (Int32 × tc_S) := (if l1 = 0 then (some (1, σ)) else (if l1 = 1 then (m_XM_conditionHolds_120 σ) else (if l1 = 2 then (m_XM_conditionHolds_120 σ) else (if l1 = 3 then (m_XM_conditionHolds_120 σ) else (if l1 = 4 then (if (tc_gf σ 6) = 0 then (m_XM_conditionHolds_78 σ 1) else (m_XM_conditionHolds_78 σ 0)) else (if l1 = 5 then (tc_gb (tc_gf σ 6) (some ((tc_gf σ 6), σ))) else (if l1 = 6 then (if (tc_gf σ 4) = 0 then (m_XM_conditionHolds_96 σ 1) else (m_XM_conditionHolds_96 σ 0)) else (if l1 = 7 then (tc_gb (tc_gf σ 4) (some ((tc_gf σ 4), σ))) else (if l1 = 8 then (m_XM_conditionHolds_120 σ) else (if l1 = 9 then (m_XM_conditionHolds_120 σ) else (if l1 = 10 then (if (tc_gf σ 3) = 0 then (m_XM_conditionHolds_114 σ 1) else (m_XM_conditionHolds_114 σ 0)) else (if l1 = 11 then (tc_gb (tc_gf σ 3) (some ((tc_gf σ 3), σ))) else (m_XM_conditionHolds_120 σ)))))))))))))
set_option maxHeartbeats 4000000 in
set_option maxRecDepth 100000 in
theorem w_XM_conditionHolds_0 (C : tc_C p s m args meth c RXM cXM_conditionHolds 2 (some .boolean) D cA) (hJ : ∀ σ, va_D A (tc_cW ad cA σ)) {q : Int32 × tc_S} {σ : tc_S} {l1 : Int32} {H : Heap} {locs : List Loc} {ls : Array Slot} (h : m_XM_conditionHolds σ l1 = some q) (hP : va_P D vwCl (tc_cW ad cA σ) H) (hS : va_S A s.heap H locs) (hl : lv_has ls 2 [(0, .ref (ad 1)), (1, .int l1)]) : W p l e (tc_R 0) s m args below meth c H locs 0 0 (MQ below (tc_Qi D (tc_cW ad cA q.2) A q.1) args s 0 0 A) (F0 m 0 ls []) := by
  have C0 := C
  obtain ⟨hx, hb, hml, hown, ⟨hK, hN⟩, hr, hlk⟩ := C
  unfold m_XM_conditionHolds at h
  refine lv_iload_n hx hb dXM_conditionHolds_0 rfl (lv_at hl 1 rfl) ?_
  by_cases hc0 : l1 = 0
  · have h := tc_ip hc0 h
    refine lv_tableIn (off := 63) (tgt := 64) hx hb dXM_conditionHolds_1 (by rw [hc0]; decide) (by rw [hc0]; decide) (by rw [hc0]; decide) (by decide) ?_
    refine lv_iconst (v := 1) hx hb dXM_conditionHolds_64 (by decide) ?_
    exact tc_crz C0 hP hS ⟨by decide, by decide⟩ h dXM_conditionHolds_65
  have h := tc_in hc0 h
  by_cases hc1 : l1 = 1
  · have h := tc_ip hc1 h
    refine lv_tableIn (off := 119) (tgt := 120) hx hb dXM_conditionHolds_1 (by rw [hc1]; decide) (by rw [hc1]; decide) (by rw [hc1]; decide) (by decide) ?_
    exact w_XM_conditionHolds_120 C0 hJ h hP hS (lv_sub hl [] rfl)
  have h := tc_in hc1 h
  by_cases hc2 : l1 = 2
  · have h := tc_ip hc2 h
    refine lv_tableIn (off := 119) (tgt := 120) hx hb dXM_conditionHolds_1 (by rw [hc2]; decide) (by rw [hc2]; decide) (by rw [hc2]; decide) (by decide) ?_
    exact w_XM_conditionHolds_120 C0 hJ h hP hS (lv_sub hl [] rfl)
  have h := tc_in hc2 h
  by_cases hc3 : l1 = 3
  · have h := tc_ip hc3 h
    refine lv_tableIn (off := 119) (tgt := 120) hx hb dXM_conditionHolds_1 (by rw [hc3]; decide) (by rw [hc3]; decide) (by rw [hc3]; decide) (by decide) ?_
    exact w_XM_conditionHolds_120 C0 hJ h hP hS (lv_sub hl [] rfl)
  have h := tc_in hc3 h
  by_cases hc4 : l1 = 4
  · have h := tc_ip hc4 h
    refine lv_tableIn (off := 65) (tgt := 66) hx hb dXM_conditionHolds_1 (by rw [hc4]; decide) (by rw [hc4]; decide) (by rw [hc4]; decide) (by decide) ?_
    refine lv_aload_n hx hb dXM_conditionHolds_66 rfl (lv_at hl 0 rfl) ?_
    refine tc_cg6 C0 hP (tc_use hN tw_242) dXM_conditionHolds_67 ?_
    refine lv_if_ne (tgt := 77) hx hb dXM_conditionHolds_70 (by decide) (fun hc => ?_) (fun hc => ?_)
    · have h := tc_in hc h
      refine lv_iconst (v := 0) hx hb dXM_conditionHolds_77 (by decide) ?_
      exact w_XM_conditionHolds_78 C0 hJ h hP hS (lv_sub hl [] rfl)
    · have h := tc_ip hc h
      refine lv_iconst (v := 1) hx hb dXM_conditionHolds_73 (by decide) ?_
      refine lv_goto (tgt := 78) hx hb dXM_conditionHolds_74 (by decide) ?_
      exact w_XM_conditionHolds_78 C0 hJ h hP hS (lv_sub hl [] rfl)
  have h := tc_in hc4 h
  by_cases hc5 : l1 = 5
  · have h := tc_ip hc5 h
    refine lv_tableIn (off := 78) (tgt := 79) hx hb dXM_conditionHolds_1 (by rw [hc5]; decide) (by rw [hc5]; decide) (by rw [hc5]; decide) (by decide) ?_
    refine lv_aload_n hx hb dXM_conditionHolds_79 rfl (lv_at hl 0 rfl) ?_
    refine tc_cg6 C0 hP (tc_use hN tw_242) dXM_conditionHolds_80 ?_
    obtain ⟨hz, h⟩ := tc_gb_some h
    exact tc_crz C0 hP hS hz h dXM_conditionHolds_83
  have h := tc_in hc5 h
  by_cases hc6 : l1 = 6
  · have h := tc_ip hc6 h
    refine lv_tableIn (off := 83) (tgt := 84) hx hb dXM_conditionHolds_1 (by rw [hc6]; decide) (by rw [hc6]; decide) (by rw [hc6]; decide) (by decide) ?_
    refine lv_aload_n hx hb dXM_conditionHolds_84 rfl (lv_at hl 0 rfl) ?_
    refine tc_cg4 C0 hP (tc_use hN tw_240) dXM_conditionHolds_85 ?_
    refine lv_if_ne (tgt := 95) hx hb dXM_conditionHolds_88 (by decide) (fun hc => ?_) (fun hc => ?_)
    · have h := tc_in hc h
      refine lv_iconst (v := 0) hx hb dXM_conditionHolds_95 (by decide) ?_
      exact w_XM_conditionHolds_96 C0 hJ h hP hS (lv_sub hl [] rfl)
    · have h := tc_ip hc h
      refine lv_iconst (v := 1) hx hb dXM_conditionHolds_91 (by decide) ?_
      refine lv_goto (tgt := 96) hx hb dXM_conditionHolds_92 (by decide) ?_
      exact w_XM_conditionHolds_96 C0 hJ h hP hS (lv_sub hl [] rfl)
  have h := tc_in hc6 h
  by_cases hc7 : l1 = 7
  · have h := tc_ip hc7 h
    refine lv_tableIn (off := 96) (tgt := 97) hx hb dXM_conditionHolds_1 (by rw [hc7]; decide) (by rw [hc7]; decide) (by rw [hc7]; decide) (by decide) ?_
    refine lv_aload_n hx hb dXM_conditionHolds_97 rfl (lv_at hl 0 rfl) ?_
    refine tc_cg4 C0 hP (tc_use hN tw_240) dXM_conditionHolds_98 ?_
    obtain ⟨hz, h⟩ := tc_gb_some h
    exact tc_crz C0 hP hS hz h dXM_conditionHolds_101
  have h := tc_in hc7 h
  by_cases hc8 : l1 = 8
  · have h := tc_ip hc8 h
    refine lv_tableIn (off := 119) (tgt := 120) hx hb dXM_conditionHolds_1 (by rw [hc8]; decide) (by rw [hc8]; decide) (by rw [hc8]; decide) (by decide) ?_
    exact w_XM_conditionHolds_120 C0 hJ h hP hS (lv_sub hl [] rfl)
  have h := tc_in hc8 h
  by_cases hc9 : l1 = 9
  · have h := tc_ip hc9 h
    refine lv_tableIn (off := 119) (tgt := 120) hx hb dXM_conditionHolds_1 (by rw [hc9]; decide) (by rw [hc9]; decide) (by rw [hc9]; decide) (by decide) ?_
    exact w_XM_conditionHolds_120 C0 hJ h hP hS (lv_sub hl [] rfl)
  have h := tc_in hc9 h
  by_cases hc10 : l1 = 10
  · have h := tc_ip hc10 h
    refine lv_tableIn (off := 101) (tgt := 102) hx hb dXM_conditionHolds_1 (by rw [hc10]; decide) (by rw [hc10]; decide) (by rw [hc10]; decide) (by decide) ?_
    refine lv_aload_n hx hb dXM_conditionHolds_102 rfl (lv_at hl 0 rfl) ?_
    refine tc_cg3 C0 hP (tc_use hN tw_239) dXM_conditionHolds_103 ?_
    refine lv_if_ne (tgt := 113) hx hb dXM_conditionHolds_106 (by decide) (fun hc => ?_) (fun hc => ?_)
    · have h := tc_in hc h
      refine lv_iconst (v := 0) hx hb dXM_conditionHolds_113 (by decide) ?_
      exact w_XM_conditionHolds_114 C0 hJ h hP hS (lv_sub hl [] rfl)
    · have h := tc_ip hc h
      refine lv_iconst (v := 1) hx hb dXM_conditionHolds_109 (by decide) ?_
      refine lv_goto (tgt := 114) hx hb dXM_conditionHolds_110 (by decide) ?_
      exact w_XM_conditionHolds_114 C0 hJ h hP hS (lv_sub hl [] rfl)
  have h := tc_in hc10 h
  by_cases hc11 : l1 = 11
  · have h := tc_ip hc11 h
    refine lv_tableIn (off := 114) (tgt := 115) hx hb dXM_conditionHolds_1 (by rw [hc11]; decide) (by rw [hc11]; decide) (by rw [hc11]; decide) (by decide) ?_
    refine lv_aload_n hx hb dXM_conditionHolds_115 rfl (lv_at hl 0 rfl) ?_
    refine tc_cg3 C0 hP (tc_use hN tw_239) dXM_conditionHolds_116 ?_
    obtain ⟨hz, h⟩ := tc_gb_some h
    exact tc_crz C0 hP hS hz h dXM_conditionHolds_119
  have h := tc_in hc11 h
  have hn0 := lv_neT (a := 0) hc0 (by decide)
  have hn1 := lv_neT (a := 1) hc1 (by decide)
  have hn2 := lv_neT (a := 2) hc2 (by decide)
  have hn3 := lv_neT (a := 3) hc3 (by decide)
  have hn4 := lv_neT (a := 4) hc4 (by decide)
  have hn5 := lv_neT (a := 5) hc5 (by decide)
  have hn6 := lv_neT (a := 6) hc6 (by decide)
  have hn7 := lv_neT (a := 7) hc7 (by decide)
  have hn8 := lv_neT (a := 8) hc8 (by decide)
  have hn9 := lv_neT (a := 9) hc9 (by decide)
  have hn10 := lv_neT (a := 10) hc10 (by decide)
  have hn11 := lv_neT (a := 11) hc11 (by decide)
  refine lv_tableOut (tgt := 120) hx hb dXM_conditionHolds_1 (by omega) (by decide) ?_
  exact w_XM_conditionHolds_120 C0 hJ h hP hS (lv_sub hl [] rfl)
theorem k_XM_conditionHolds (hJ : ∀ σ, va_D A (tc_cW ad cA σ)) {σ : tc_S} {l1 : Int32} {q : Int32 × tc_S} (h : m_XM_conditionHolds σ l1 = some q) : Met l yXM_conditionHolds [.code yXM_conditionHolds cXM_conditionHolds 2 (some .boolean)] (tc_R 0) (tc_Pc D cA (tc_cW ad cA σ) [.ref (ad 1), .int l1]) (tc_Qi D (tc_cW ad cA q.2) A q.1) 0 0 A :=
  tc_met (by decide) (Nat.le_of_ble_eq_true rfl) (fun _ _ _ _ _ _ _ C hP _ hl => w_XM_conditionHolds_0 C hJ h hP va_S.rf hl)
def m_XM_branch (σ : tc_S) (l1 : Int32) : Option (Int32 × tc_S) := (if l1.toInt8.toInt32 = 0 then (some (0, σ)) else ((m_XM_conditionHolds σ ((l1 >>> ((8 : Int32) &&& 31)) &&& 15)).bind (fun q17 => (if q17.1 = 0 then (some (8, q17.2)) else (some (10, (tc_sf q17.2 1 (((tc_gf q17.2 1) + l1.toInt8.toInt32) &&& 65535))))))))
set_option maxHeartbeats 4000000 in
set_option maxRecDepth 100000 in
theorem w_XM_branch_0 (C : tc_C p s m args meth c RXM cXM_branch 3 (some .int) D cA) (hJ : ∀ σ, va_D A (tc_cW ad cA σ)) {q : Int32 × tc_S} {σ : tc_S} {l1 : Int32} {H : Heap} {locs : List Loc} {ls : Array Slot} (h : m_XM_branch σ l1 = some q) (hP : va_P D vwCl (tc_cW ad cA σ) H) (hS : va_S A s.heap H locs) (hl : lv_has ls 3 [(0, .ref (ad 1)), (1, .int l1)]) : W p l e (tc_R 1) s m args below meth c H locs 0 0 (MQ below (tc_Qi D (tc_cW ad cA q.2) A q.1) args s 0 0 A) (F0 m 0 ls []) := by
  have C0 := C
  obtain ⟨hx, hb, hml, hown, ⟨hK, hN⟩, hr, hlk⟩ := C
  unfold m_XM_branch at h
  refine lv_iload_n hx hb dXM_branch_0 rfl (lv_at hl 1 rfl) ?_
  refine lv_i2b (v := l1.toInt8.toInt32) hx hb dXM_branch_1 rfl ?_
  refine lv_istore_n (lv' := [(2, .int l1.toInt8.toInt32), (0, .ref (ad 1)), (1, .int l1)]) hx hb dXM_branch_2 rfl hl (by decide) rfl (fun ls hl => ?_)
  refine lv_iload_n hx hb dXM_branch_3 rfl (lv_at hl 0 rfl) ?_
  refine lv_if_ne (tgt := 9) hx hb dXM_branch_4 (by decide) (fun hc => ?_) (fun hc => ?_)
  · have h := tc_in hc h
    refine lv_aload_n hx hb dXM_branch_9 rfl (lv_at hl 1 rfl) ?_
    refine lv_iload_n hx hb dXM_branch_10 rfl (lv_at hl 2 rfl) ?_
    refine lv_bipush (v := 8) hx hb dXM_branch_11 (by decide) ?_
    refine lv_ishr hx hb dXM_branch_13 ?_
    refine lv_bipush (v := 15) hx hb dXM_branch_14 (by decide) ?_
    refine lv_iand hx hb dXM_branch_16 ?_
    obtain ⟨q17, e17, h⟩ := tc_bd_some h
    refine tc_cVi (As := [.int ((l1 >>> ((8 : Int32) &&& 31)) &&& 15)]) (rest := []) C0 (k_XM_conditionHolds hJ e17) tv_XM_104 (by decide) (by decide) hP hS hl 1 rfl rfl (Nat.le_of_ble_eq_true rfl) dXM_branch_17 rfl (fun H locs hP hS => ?_)
    refine lv_if_ne (tgt := 26) hx hb dXM_branch_20 (by decide) (fun hc => ?_) (fun hc => ?_)
    · have h := tc_in hc h
      refine lv_aload_n hx hb dXM_branch_26 rfl (lv_at hl 1 rfl) ?_
      refine lv_aload_n hx hb dXM_branch_27 rfl (lv_at hl 1 rfl) ?_
      refine tc_cg1 C0 hP (tc_use hN tw_235) dXM_branch_28 ?_
      refine lv_iload_n hx hb dXM_branch_31 rfl (lv_at hl 0 rfl) ?_
      refine lv_iadd hx hb dXM_branch_32 ?_
      refine lv_ldc (v := 65535) hx hb hown (tc_use hN tw_368) dXM_branch_33 ?_
      refine lv_iand hx hb dXM_branch_35 ?_
      refine tc_cp1 C0 hJ hP hS (tc_use hN tw_235) dXM_branch_36 (fun H locs hP hS => ?_)
      refine lv_bipush (v := 10) hx hb dXM_branch_39 (by decide) ?_
      exact tc_cri C0 hP hS h dXM_branch_41
    · have h := tc_ip hc h
      refine lv_bipush (v := 8) hx hb dXM_branch_23 (by decide) ?_
      exact tc_cri C0 hP hS h dXM_branch_25
  · have h := tc_ip hc h
    refine lv_iconst (v := 0) hx hb dXM_branch_7 (by decide) ?_
    exact tc_cri C0 hP hS h dXM_branch_8
theorem k_XM_branch (hJ : ∀ σ, va_D A (tc_cW ad cA σ)) {σ : tc_S} {l1 : Int32} {q : Int32 × tc_S} (h : m_XM_branch σ l1 = some q) : Met l yXM_branch [.code yXM_branch cXM_branch 3 (some .int)] (tc_R 1) (tc_Pc D cA (tc_cW ad cA σ) [.ref (ad 1), .int l1]) (tc_Qi D (tc_cW ad cA q.2) A q.1) 0 0 A :=
  tc_met (by decide) (Nat.le_of_ble_eq_true rfl) (fun _ _ _ _ _ _ _ C hP _ hl => w_XM_branch_0 C hJ h hP va_S.rf hl)
def m_XM_moveQuick (σ : tc_S) (l1 : Int32) : Option (Int32 × tc_S) := (if (l1 &&& 256) = 0 then (tc_gd ((l1 >>> ((9 : Int32) &&& 31)) &&& 7) 8 ((m_XM_setMoveFlags (tc_sa σ 0 ((l1 >>> ((9 : Int32) &&& 31)) &&& 7) l1.toInt8.toInt32) l1.toInt8.toInt32).bind (fun q28 => (some (4, q28))))) else (some (0, σ)))
set_option maxHeartbeats 4000000 in
set_option maxRecDepth 100000 in
theorem w_XM_moveQuick_0 (C : tc_C p s m args meth c RXM cXM_moveQuick 3 (some .int) D cA) (hJ : ∀ σ, va_D A (tc_cW ad cA σ)) {q : Int32 × tc_S} {σ : tc_S} {l1 : Int32} {H : Heap} {locs : List Loc} {ls : Array Slot} (h : m_XM_moveQuick σ l1 = some q) (hP : va_P D vwCl (tc_cW ad cA σ) H) (hS : va_S A s.heap H locs) (hl : lv_has ls 3 [(0, .ref (ad 1)), (1, .int l1)]) : W p l e (tc_R 1) s m args below meth c H locs 0 0 (MQ below (tc_Qi D (tc_cW ad cA q.2) A q.1) args s 0 0 A) (F0 m 0 ls []) := by
  have C0 := C
  obtain ⟨hx, hb, hml, hown, ⟨hK, hN⟩, hr, hlk⟩ := C
  unfold m_XM_moveQuick at h
  refine lv_iload_n hx hb dXM_moveQuick_0 rfl (lv_at hl 1 rfl) ?_
  refine lv_sipush (v := 256) hx hb dXM_moveQuick_1 (by decide) ?_
  refine lv_iand hx hb dXM_moveQuick_4 ?_
  refine lv_if_eq (tgt := 10) hx hb dXM_moveQuick_5 (by decide) (fun hc => ?_) (fun hc => ?_)
  · have h := tc_ip hc h
    refine lv_iload_n hx hb dXM_moveQuick_10 rfl (lv_at hl 1 rfl) ?_
    refine lv_i2b (v := l1.toInt8.toInt32) hx hb dXM_moveQuick_11 rfl ?_
    refine lv_istore_n (lv' := [(2, .int l1.toInt8.toInt32), (0, .ref (ad 1)), (1, .int l1)]) hx hb dXM_moveQuick_12 rfl hl (by decide) rfl (fun ls hl => ?_)
    refine lv_aload_n hx hb dXM_moveQuick_13 rfl (lv_at hl 1 rfl) ?_
    refine tc_cr_XM_d C0 hP (tc_use hN tw_231) dXM_moveQuick_14 ?_
    refine lv_iload_n hx hb dXM_moveQuick_17 rfl (lv_at hl 2 rfl) ?_
    refine lv_bipush (v := 9) hx hb dXM_moveQuick_18 (by decide) ?_
    refine lv_ishr hx hb dXM_moveQuick_20 ?_
    refine lv_bipush (v := 7) hx hb dXM_moveQuick_21 (by decide) ?_
    refine lv_iand hx hb dXM_moveQuick_23 ?_
    refine lv_iload_n hx hb dXM_moveQuick_24 rfl (lv_at hl 0 rfl) ?_
    obtain ⟨hi, h⟩ := tc_gd_some h
    refine tc_cst9 C0 hJ hP hS hi dXM_moveQuick_25 (fun H locs hP hS => ?_)
    refine lv_aload_n hx hb dXM_moveQuick_26 rfl (lv_at hl 1 rfl) ?_
    refine lv_iload_n hx hb dXM_moveQuick_27 rfl (lv_at hl 0 rfl) ?_
    obtain ⟨q28, e28, h⟩ := tc_bd_some h
    refine tc_cVv (As := [.int l1.toInt8.toInt32]) (rest := []) C0 (k_XM_setMoveFlags hJ e28) tv_XM_86 (by decide) (by decide) hP hS hl 1 rfl rfl (Nat.le_of_ble_eq_true rfl) dXM_moveQuick_28 rfl (fun H locs hP hS => ?_)
    refine lv_iconst (v := 4) hx hb dXM_moveQuick_31 (by decide) ?_
    exact tc_cri C0 hP hS h dXM_moveQuick_32
  · have h := tc_in hc h
    refine lv_iconst (v := 0) hx hb dXM_moveQuick_8 (by decide) ?_
    exact tc_cri C0 hP hS h dXM_moveQuick_9
theorem k_XM_moveQuick (hJ : ∀ σ, va_D A (tc_cW ad cA σ)) {σ : tc_S} {l1 : Int32} {q : Int32 × tc_S} (h : m_XM_moveQuick σ l1 = some q) : Met l yXM_moveQuick [.code yXM_moveQuick cXM_moveQuick 3 (some .int)] (tc_R 1) (tc_Pc D cA (tc_cW ad cA σ) [.ref (ad 1), .int l1]) (tc_Qi D (tc_cW ad cA q.2) A q.1) 0 0 A :=
  tc_met (by decide) (Nat.le_of_ble_eq_true rfl) (fun _ _ _ _ _ _ _ C hP _ hl => w_XM_moveQuick_0 C hJ h hP va_S.rf hl)
def m_XM_setReckonedFlags_18 (σ : tc_S) (l2 k0 : Int32) : Option (tc_S) := (tc_gb k0 (tc_gb l2 (some (tc_sf (tc_sf σ 5 k0) 6 l2))))
set_option maxHeartbeats 4000000 in
set_option maxRecDepth 100000 in
theorem w_XM_setReckonedFlags_18 (C : tc_C p s m args meth c RXM cXM_setReckonedFlags 3 none D cA) (hJ : ∀ σ, va_D A (tc_cW ad cA σ)) {q : tc_S} {σ : tc_S} {l2 k0 : Int32} {H : Heap} {locs : List Loc} {ls : Array Slot} (h : m_XM_setReckonedFlags_18 σ l2 k0 = some q) (hP : va_P D vwCl (tc_cW ad cA σ) H) (hS : va_S A s.heap H locs) (hl : lv_has ls 3 [(0, .ref (ad 1)), (2, .int l2)]) : W p l e (tc_R 1) s m args below meth c H locs 0 0 (MQ below (tc_Qv D (tc_cW ad cA q) A) args s 0 0 A) (F0 m 18 ls [.int k0, .ref (ad 1)]) := by
  have C0 := C
  obtain ⟨hx, hb, hml, hown, ⟨hK, hN⟩, hr, hlk⟩ := C
  unfold m_XM_setReckonedFlags_18 at h
  obtain ⟨hz, h⟩ := tc_gb_some h
  refine tc_cp5 C0 hJ hP hS (tc_use hN tw_241) hz dXM_setReckonedFlags_18 (fun H locs hP hS => ?_)
  refine lv_aload_n hx hb dXM_setReckonedFlags_21 rfl (lv_at hl 0 rfl) ?_
  refine lv_iload_n hx hb dXM_setReckonedFlags_22 rfl (lv_at hl 1 rfl) ?_
  obtain ⟨hz, h⟩ := tc_gb_some h
  refine tc_cp6 C0 hJ hP hS (tc_use hN tw_242) hz dXM_setReckonedFlags_23 (fun H locs hP hS => ?_)
  exact tc_crv C0 hP hS h dXM_setReckonedFlags_26
def m_XM_setReckonedFlags (σ : tc_S) (l1 l2 : Int32) : Option (tc_S) := ((m_XM_setMoveFlags σ l1.toInt16.toInt32).bind (fun q3 => (if l1 = l1.toInt16.toInt32 then (m_XM_setReckonedFlags_18 q3 l2 0) else (m_XM_setReckonedFlags_18 q3 l2 1))))
set_option maxHeartbeats 4000000 in
set_option maxRecDepth 100000 in
theorem w_XM_setReckonedFlags_0 (C : tc_C p s m args meth c RXM cXM_setReckonedFlags 3 none D cA) (hJ : ∀ σ, va_D A (tc_cW ad cA σ)) {q : tc_S} {σ : tc_S} {l1 l2 : Int32} {H : Heap} {locs : List Loc} {ls : Array Slot} (h : m_XM_setReckonedFlags σ l1 l2 = some q) (hP : va_P D vwCl (tc_cW ad cA σ) H) (hS : va_S A s.heap H locs) (hl : lv_has ls 3 [(0, .ref (ad 1)), (1, .int l1), (2, .int l2)]) : W p l e (tc_R 1) s m args below meth c H locs 0 0 (MQ below (tc_Qv D (tc_cW ad cA q) A) args s 0 0 A) (F0 m 0 ls []) := by
  have C0 := C
  obtain ⟨hx, hb, hml, hown, ⟨hK, hN⟩, hr, hlk⟩ := C
  unfold m_XM_setReckonedFlags at h
  refine lv_aload_n hx hb dXM_setReckonedFlags_0 rfl (lv_at hl 0 rfl) ?_
  refine lv_iload_n hx hb dXM_setReckonedFlags_1 rfl (lv_at hl 1 rfl) ?_
  refine lv_i2s (v := l1.toInt16.toInt32) hx hb dXM_setReckonedFlags_2 rfl ?_
  obtain ⟨q3, e3, h⟩ := tc_bd_some h
  refine tc_cVv (As := [.int l1.toInt16.toInt32]) (rest := []) C0 (k_XM_setMoveFlags hJ e3) tv_XM_86 (by decide) (by decide) hP hS hl 1 rfl rfl (Nat.le_of_ble_eq_true rfl) dXM_setReckonedFlags_3 rfl (fun H locs hP hS => ?_)
  refine lv_aload_n hx hb dXM_setReckonedFlags_6 rfl (lv_at hl 0 rfl) ?_
  refine lv_iload_n hx hb dXM_setReckonedFlags_7 rfl (lv_at hl 1 rfl) ?_
  refine lv_iload_n hx hb dXM_setReckonedFlags_8 rfl (lv_at hl 1 rfl) ?_
  refine lv_i2s (v := l1.toInt16.toInt32) hx hb dXM_setReckonedFlags_9 rfl ?_
  refine lv_icmp_eq (tgt := 17) hx hb dXM_setReckonedFlags_10 (by decide) (fun hc => ?_) (fun hc => ?_)
  · have h := tc_ip hc h
    refine lv_iconst (v := 0) hx hb dXM_setReckonedFlags_17 (by decide) ?_
    exact w_XM_setReckonedFlags_18 C0 hJ h hP hS (lv_sub hl [0, 2] rfl)
  · have h := tc_in hc h
    refine lv_iconst (v := 1) hx hb dXM_setReckonedFlags_13 (by decide) ?_
    refine lv_goto (tgt := 18) hx hb dXM_setReckonedFlags_14 (by decide) ?_
    exact w_XM_setReckonedFlags_18 C0 hJ h hP hS (lv_sub hl [0, 2] rfl)
theorem k_XM_setReckonedFlags (hJ : ∀ σ, va_D A (tc_cW ad cA σ)) {σ : tc_S} {l1 l2 : Int32} {q : tc_S} (h : m_XM_setReckonedFlags σ l1 l2 = some q) : Met l yXM_setReckonedFlags [.code yXM_setReckonedFlags cXM_setReckonedFlags 3 none] (tc_R 1) (tc_Pc D cA (tc_cW ad cA σ) [.ref (ad 1), .int l1, .int l2]) (tc_Qv D (tc_cW ad cA q) A) 0 0 A :=
  tc_met (by decide) (Nat.le_of_ble_eq_true rfl) (fun _ _ _ _ _ _ _ C hP _ hl => w_XM_setReckonedFlags_0 C hJ h hP va_S.rf hl)
def m_XM_compare_57 (σ : tc_S) (k0 k1 : Int32) : Option (Int32 × tc_S) := ((m_XM_setReckonedFlags σ k1 k0).bind (fun q57 => (some (4, q57))))
set_option maxHeartbeats 4000000 in
set_option maxRecDepth 100000 in
theorem w_XM_compare_57 (C : tc_C p s m args meth c RXM cXM_compare 4 (some .int) D cA) (hJ : ∀ σ, va_D A (tc_cW ad cA σ)) {q : Int32 × tc_S} {σ : tc_S} {k0 k1 : Int32} {H : Heap} {locs : List Loc} {ls : Array Slot} (h : m_XM_compare_57 σ k0 k1 = some q) (hP : va_P D vwCl (tc_cW ad cA σ) H) (hS : va_S A s.heap H locs) (hl : lv_has ls 4 []) : W p l e (tc_R 2) s m args below meth c H locs 0 0 (MQ below (tc_Qi D (tc_cW ad cA q.2) A q.1) args s 0 0 A) (F0 m 57 ls [.int k0, .int k1, .ref (ad 1)]) := by
  have C0 := C
  obtain ⟨hx, hb, hml, hown, ⟨hK, hN⟩, hr, hlk⟩ := C
  unfold m_XM_compare_57 at h
  obtain ⟨q57, e57, h⟩ := tc_bd_some h
  refine tc_cVv (As := [.int k1, .int k0]) (rest := []) C0 (k_XM_setReckonedFlags hJ e57) tv_XM_100 (by decide) (by decide) hP hS hl 1 rfl rfl (Nat.le_of_ble_eq_true rfl) dXM_compare_57 rfl (fun H locs hP hS => ?_)
  refine lv_iconst (v := 4) hx hb dXM_compare_60 (by decide) ?_
  exact tc_cri C0 hP hS h dXM_compare_61
def m_XM_compare (σ : tc_S) (l1 : Int32) : Option (Int32 × tc_S) := (if (l1 &&& 504) = 64 then (tc_gd ((l1 >>> ((9 : Int32) &&& 31)) &&& 7) 8 (tc_gd (l1 &&& 7) 8 (if ((tc_ga σ 0 (l1 &&& 7)) &&& 65535) ≤ ((tc_ga σ 0 ((l1 >>> ((9 : Int32) &&& 31)) &&& 7)) &&& 65535) then (m_XM_compare_57 σ 0 ((tc_ga σ 0 ((l1 >>> ((9 : Int32) &&& 31)) &&& 7)).toInt16.toInt32 - (tc_ga σ 0 (l1 &&& 7)).toInt16.toInt32)) else (m_XM_compare_57 σ 1 ((tc_ga σ 0 ((l1 >>> ((9 : Int32) &&& 31)) &&& 7)).toInt16.toInt32 - (tc_ga σ 0 (l1 &&& 7)).toInt16.toInt32))))) else (some (0, σ)))
set_option maxHeartbeats 4000000 in
set_option maxRecDepth 100000 in
theorem w_XM_compare_0 (C : tc_C p s m args meth c RXM cXM_compare 4 (some .int) D cA) (hJ : ∀ σ, va_D A (tc_cW ad cA σ)) {q : Int32 × tc_S} {σ : tc_S} {l1 : Int32} {H : Heap} {locs : List Loc} {ls : Array Slot} (h : m_XM_compare σ l1 = some q) (hP : va_P D vwCl (tc_cW ad cA σ) H) (hS : va_S A s.heap H locs) (hl : lv_has ls 4 [(0, .ref (ad 1)), (1, .int l1)]) : W p l e (tc_R 2) s m args below meth c H locs 0 0 (MQ below (tc_Qi D (tc_cW ad cA q.2) A q.1) args s 0 0 A) (F0 m 0 ls []) := by
  have C0 := C
  obtain ⟨hx, hb, hml, hown, ⟨hK, hN⟩, hr, hlk⟩ := C
  unfold m_XM_compare at h
  refine lv_iload_n hx hb dXM_compare_0 rfl (lv_at hl 1 rfl) ?_
  refine lv_sipush (v := 504) hx hb dXM_compare_1 (by decide) ?_
  refine lv_iand hx hb dXM_compare_4 ?_
  refine lv_bipush (v := 64) hx hb dXM_compare_5 (by decide) ?_
  refine lv_icmp_eq (tgt := 12) hx hb dXM_compare_7 (by decide) (fun hc => ?_) (fun hc => ?_)
  · have h := tc_ip hc h
    refine lv_aload_n hx hb dXM_compare_12 rfl (lv_at hl 0 rfl) ?_
    refine tc_cr_XM_d C0 hP (tc_use hN tw_231) dXM_compare_13 ?_
    refine lv_iload_n hx hb dXM_compare_16 rfl (lv_at hl 1 rfl) ?_
    refine lv_bipush (v := 9) hx hb dXM_compare_17 (by decide) ?_
    refine lv_ishr hx hb dXM_compare_19 ?_
    refine lv_bipush (v := 7) hx hb dXM_compare_20 (by decide) ?_
    refine lv_iand hx hb dXM_compare_22 ?_
    obtain ⟨hi, h⟩ := tc_gd_some h
    refine tc_cld9 C0 hP hi dXM_compare_23 ?_
    refine lv_istore_n (lv' := [(2, .int (tc_ga σ 0 ((l1 >>> ((9 : Int32) &&& 31)) &&& 7))), (0, .ref (ad 1)), (1, .int l1)]) hx hb dXM_compare_24 rfl hl (by decide) rfl (fun ls hl => ?_)
    refine lv_aload_n hx hb dXM_compare_25 rfl (lv_at hl 1 rfl) ?_
    refine tc_cr_XM_d C0 hP (tc_use hN tw_231) dXM_compare_26 ?_
    refine lv_iload_n hx hb dXM_compare_29 rfl (lv_at hl 2 rfl) ?_
    refine lv_bipush (v := 7) hx hb dXM_compare_30 (by decide) ?_
    refine lv_iand hx hb dXM_compare_32 ?_
    obtain ⟨hi, h⟩ := tc_gd_some h
    refine tc_cld9 C0 hP hi dXM_compare_33 ?_
    refine lv_istore_n (lv' := [(3, .int (tc_ga σ 0 (l1 &&& 7))), (2, .int (tc_ga σ 0 ((l1 >>> ((9 : Int32) &&& 31)) &&& 7))), (0, .ref (ad 1)), (1, .int l1)]) hx hb dXM_compare_34 rfl hl (by decide) rfl (fun ls hl => ?_)
    refine lv_aload_n hx hb dXM_compare_35 rfl (lv_at hl 2 rfl) ?_
    refine lv_iload_n hx hb dXM_compare_36 rfl (lv_at hl 1 rfl) ?_
    refine lv_i2s (v := (tc_ga σ 0 ((l1 >>> ((9 : Int32) &&& 31)) &&& 7)).toInt16.toInt32) hx hb dXM_compare_37 rfl ?_
    refine lv_iload_n hx hb dXM_compare_38 rfl (lv_at hl 0 rfl) ?_
    refine lv_i2s (v := (tc_ga σ 0 (l1 &&& 7)).toInt16.toInt32) hx hb dXM_compare_39 rfl ?_
    refine lv_isub hx hb dXM_compare_40 ?_
    refine lv_iload_n hx hb dXM_compare_41 rfl (lv_at hl 1 rfl) ?_
    refine lv_ldc (v := 65535) hx hb hown (tc_use hN tw_368) dXM_compare_42 ?_
    refine lv_iand hx hb dXM_compare_44 ?_
    refine lv_iload_n hx hb dXM_compare_45 rfl (lv_at hl 0 rfl) ?_
    refine lv_ldc (v := 65535) hx hb hown (tc_use hN tw_368) dXM_compare_46 ?_
    refine lv_iand hx hb dXM_compare_48 ?_
    refine lv_icmp_ge (tgt := 56) hx hb dXM_compare_49 (by decide) (fun hc => ?_) (fun hc => ?_)
    · have h := tc_ip hc h
      refine lv_iconst (v := 0) hx hb dXM_compare_56 (by decide) ?_
      exact w_XM_compare_57 C0 hJ h hP hS (lv_sub hl [] rfl)
    · have h := tc_in hc h
      refine lv_iconst (v := 1) hx hb dXM_compare_52 (by decide) ?_
      refine lv_goto (tgt := 57) hx hb dXM_compare_53 (by decide) ?_
      exact w_XM_compare_57 C0 hJ h hP hS (lv_sub hl [] rfl)
  · have h := tc_in hc h
    refine lv_iconst (v := 0) hx hb dXM_compare_10 (by decide) ?_
    exact tc_cri C0 hP hS h dXM_compare_11
theorem k_XM_compare (hJ : ∀ σ, va_D A (tc_cW ad cA σ)) {σ : tc_S} {l1 : Int32} {q : Int32 × tc_S} (h : m_XM_compare σ l1 = some q) : Met l yXM_compare [.code yXM_compare cXM_compare 4 (some .int)] (tc_R 2) (tc_Pc D cA (tc_cW ad cA σ) [.ref (ad 1), .int l1]) (tc_Qi D (tc_cW ad cA q.2) A q.1) 0 0 A :=
  tc_met (by decide) (Nat.le_of_ble_eq_true rfl) (fun _ _ _ _ _ _ _ C hP _ hl => w_XM_compare_0 C hJ h hP va_S.rf hl)
def m_XM_add_69 (σ : tc_S) (l2 l5 k0 k1 : Int32) : Option (Int32 × tc_S) := ((m_XM_setReckonedFlags σ k1 k0).bind (fun q69 => ((m_XM_setLowWord q69 l2 l5).bind (fun q76 => (some (4, q76))))))
set_option maxHeartbeats 4000000 in
set_option maxRecDepth 100000 in
theorem w_XM_add_69 (C : tc_C p s m args meth c RXM cXM_add 6 (some .int) D cA) (hJ : ∀ σ, va_D A (tc_cW ad cA σ)) {q : Int32 × tc_S} {σ : tc_S} {l2 l5 k0 k1 : Int32} {H : Heap} {locs : List Loc} {ls : Array Slot} (h : m_XM_add_69 σ l2 l5 k0 k1 = some q) (hP : va_P D vwCl (tc_cW ad cA σ) H) (hS : va_S A s.heap H locs) (hl : lv_has ls 6 [(0, .ref (ad 1)), (2, .int l2), (5, .int l5)]) : W p l e (tc_R 2) s m args below meth c H locs 0 0 (MQ below (tc_Qi D (tc_cW ad cA q.2) A q.1) args s 0 0 A) (F0 m 69 ls [.int k0, .int k1, .ref (ad 1)]) := by
  have C0 := C
  obtain ⟨hx, hb, hml, hown, ⟨hK, hN⟩, hr, hlk⟩ := C
  unfold m_XM_add_69 at h
  obtain ⟨q69, e69, h⟩ := tc_bd_some h
  refine tc_cVv (As := [.int k1, .int k0]) (rest := []) C0 (k_XM_setReckonedFlags hJ e69) tv_XM_100 (by decide) (by decide) hP hS hl 1 rfl rfl (Nat.le_of_ble_eq_true rfl) dXM_add_69 rfl (fun H locs hP hS => ?_)
  refine lv_aload_n hx hb dXM_add_72 rfl (lv_at hl 0 rfl) ?_
  refine lv_iload_n hx hb dXM_add_73 rfl (lv_at hl 1 rfl) ?_
  refine lv_iload hx hb dXM_add_74 (lv_at hl 2 rfl) ?_
  obtain ⟨q76, e76, h⟩ := tc_bd_some h
  refine tc_cVv (As := [.int l2, .int l5]) (rest := []) C0 (k_XM_setLowWord hJ e76) tv_XM_97 (by decide) (by decide) hP hS hl 1 rfl rfl (Nat.le_of_ble_eq_true rfl) dXM_add_76 rfl (fun H locs hP hS => ?_)
  refine lv_iconst (v := 4) hx hb dXM_add_79 (by decide) ?_
  exact tc_cri C0 hP hS h dXM_add_80
def m_XM_add (σ : tc_S) (l1 : Int32) : Option (Int32 × tc_S) := (if (l1 &&& 504) = 64 then (tc_gd ((l1 >>> ((9 : Int32) &&& 31)) &&& 7) 8 (tc_gd (l1 &&& 7) 8 (if (((tc_ga σ 0 ((l1 >>> ((9 : Int32) &&& 31)) &&& 7)) &&& 65535) + ((tc_ga σ 0 (l1 &&& 7)) &&& 65535)) ≤ 65535 then (m_XM_add_69 σ ((l1 >>> ((9 : Int32) &&& 31)) &&& 7) ((tc_ga σ 0 ((l1 >>> ((9 : Int32) &&& 31)) &&& 7)).toInt16.toInt32 + (tc_ga σ 0 (l1 &&& 7)).toInt16.toInt32) 0 ((tc_ga σ 0 ((l1 >>> ((9 : Int32) &&& 31)) &&& 7)).toInt16.toInt32 + (tc_ga σ 0 (l1 &&& 7)).toInt16.toInt32)) else (m_XM_add_69 σ ((l1 >>> ((9 : Int32) &&& 31)) &&& 7) ((tc_ga σ 0 ((l1 >>> ((9 : Int32) &&& 31)) &&& 7)).toInt16.toInt32 + (tc_ga σ 0 (l1 &&& 7)).toInt16.toInt32) 1 ((tc_ga σ 0 ((l1 >>> ((9 : Int32) &&& 31)) &&& 7)).toInt16.toInt32 + (tc_ga σ 0 (l1 &&& 7)).toInt16.toInt32))))) else (some (0, σ)))
set_option maxHeartbeats 4000000 in
set_option maxRecDepth 100000 in
theorem w_XM_add_0 (C : tc_C p s m args meth c RXM cXM_add 6 (some .int) D cA) (hJ : ∀ σ, va_D A (tc_cW ad cA σ)) {q : Int32 × tc_S} {σ : tc_S} {l1 : Int32} {H : Heap} {locs : List Loc} {ls : Array Slot} (h : m_XM_add σ l1 = some q) (hP : va_P D vwCl (tc_cW ad cA σ) H) (hS : va_S A s.heap H locs) (hl : lv_has ls 6 [(0, .ref (ad 1)), (1, .int l1)]) : W p l e (tc_R 2) s m args below meth c H locs 0 0 (MQ below (tc_Qi D (tc_cW ad cA q.2) A q.1) args s 0 0 A) (F0 m 0 ls []) := by
  have C0 := C
  obtain ⟨hx, hb, hml, hown, ⟨hK, hN⟩, hr, hlk⟩ := C
  unfold m_XM_add at h
  refine lv_iload_n hx hb dXM_add_0 rfl (lv_at hl 1 rfl) ?_
  refine lv_sipush (v := 504) hx hb dXM_add_1 (by decide) ?_
  refine lv_iand hx hb dXM_add_4 ?_
  refine lv_bipush (v := 64) hx hb dXM_add_5 (by decide) ?_
  refine lv_icmp_eq (tgt := 12) hx hb dXM_add_7 (by decide) (fun hc => ?_) (fun hc => ?_)
  · have h := tc_ip hc h
    refine lv_iload_n hx hb dXM_add_12 rfl (lv_at hl 1 rfl) ?_
    refine lv_bipush (v := 9) hx hb dXM_add_13 (by decide) ?_
    refine lv_ishr hx hb dXM_add_15 ?_
    refine lv_bipush (v := 7) hx hb dXM_add_16 (by decide) ?_
    refine lv_iand hx hb dXM_add_18 ?_
    refine lv_istore_n (lv' := [(2, .int ((l1 >>> ((9 : Int32) &&& 31)) &&& 7)), (0, .ref (ad 1)), (1, .int l1)]) hx hb dXM_add_19 rfl hl (by decide) rfl (fun ls hl => ?_)
    refine lv_aload_n hx hb dXM_add_20 rfl (lv_at hl 1 rfl) ?_
    refine tc_cr_XM_d C0 hP (tc_use hN tw_231) dXM_add_21 ?_
    refine lv_iload_n hx hb dXM_add_24 rfl (lv_at hl 0 rfl) ?_
    obtain ⟨hi, h⟩ := tc_gd_some h
    refine tc_cld9 C0 hP hi dXM_add_25 ?_
    refine lv_istore_n (lv' := [(3, .int (tc_ga σ 0 ((l1 >>> ((9 : Int32) &&& 31)) &&& 7))), (2, .int ((l1 >>> ((9 : Int32) &&& 31)) &&& 7)), (0, .ref (ad 1)), (1, .int l1)]) hx hb dXM_add_26 rfl hl (by decide) rfl (fun ls hl => ?_)
    refine lv_aload_n hx hb dXM_add_27 rfl (lv_at hl 2 rfl) ?_
    refine tc_cr_XM_d C0 hP (tc_use hN tw_231) dXM_add_28 ?_
    refine lv_iload_n hx hb dXM_add_31 rfl (lv_at hl 3 rfl) ?_
    refine lv_bipush (v := 7) hx hb dXM_add_32 (by decide) ?_
    refine lv_iand hx hb dXM_add_34 ?_
    obtain ⟨hi, h⟩ := tc_gd_some h
    refine tc_cld9 C0 hP hi dXM_add_35 ?_
    refine lv_istore (lv' := [(4, .int (tc_ga σ 0 (l1 &&& 7))), (3, .int (tc_ga σ 0 ((l1 >>> ((9 : Int32) &&& 31)) &&& 7))), (2, .int ((l1 >>> ((9 : Int32) &&& 31)) &&& 7)), (0, .ref (ad 1)), (1, .int l1)]) hx hb dXM_add_36 hl (by decide) rfl (fun ls hl => ?_)
    refine lv_iload_n hx hb dXM_add_38 rfl (lv_at hl 1 rfl) ?_
    refine lv_i2s (v := (tc_ga σ 0 ((l1 >>> ((9 : Int32) &&& 31)) &&& 7)).toInt16.toInt32) hx hb dXM_add_39 rfl ?_
    refine lv_iload hx hb dXM_add_40 (lv_at hl 0 rfl) ?_
    refine lv_i2s (v := (tc_ga σ 0 (l1 &&& 7)).toInt16.toInt32) hx hb dXM_add_42 rfl ?_
    refine lv_iadd hx hb dXM_add_43 ?_
    refine lv_istore (lv' := [(5, .int ((tc_ga σ 0 ((l1 >>> ((9 : Int32) &&& 31)) &&& 7)).toInt16.toInt32 + (tc_ga σ 0 (l1 &&& 7)).toInt16.toInt32)), (4, .int (tc_ga σ 0 (l1 &&& 7))), (3, .int (tc_ga σ 0 ((l1 >>> ((9 : Int32) &&& 31)) &&& 7))), (2, .int ((l1 >>> ((9 : Int32) &&& 31)) &&& 7)), (0, .ref (ad 1)), (1, .int l1)]) hx hb dXM_add_44 hl (by decide) rfl (fun ls hl => ?_)
    refine lv_aload_n hx hb dXM_add_46 rfl (lv_at hl 4 rfl) ?_
    refine lv_iload hx hb dXM_add_47 (lv_at hl 0 rfl) ?_
    refine lv_iload_n hx hb dXM_add_49 rfl (lv_at hl 2 rfl) ?_
    refine lv_ldc (v := 65535) hx hb hown (tc_use hN tw_368) dXM_add_50 ?_
    refine lv_iand hx hb dXM_add_52 ?_
    refine lv_iload hx hb dXM_add_53 (lv_at hl 1 rfl) ?_
    refine lv_ldc (v := 65535) hx hb hown (tc_use hN tw_368) dXM_add_55 ?_
    refine lv_iand hx hb dXM_add_57 ?_
    refine lv_iadd hx hb dXM_add_58 ?_
    refine lv_ldc (v := 65535) hx hb hown (tc_use hN tw_368) dXM_add_59 ?_
    refine lv_icmp_le (tgt := 68) hx hb dXM_add_61 (by decide) (fun hc => ?_) (fun hc => ?_)
    · have h := tc_ip hc h
      refine lv_iconst (v := 0) hx hb dXM_add_68 (by decide) ?_
      exact w_XM_add_69 C0 hJ h hP hS (lv_sub hl [4, 3, 0] rfl)
    · have h := tc_in hc h
      refine lv_iconst (v := 1) hx hb dXM_add_64 (by decide) ?_
      refine lv_goto (tgt := 69) hx hb dXM_add_65 (by decide) ?_
      exact w_XM_add_69 C0 hJ h hP hS (lv_sub hl [4, 3, 0] rfl)
  · have h := tc_in hc h
    refine lv_iconst (v := 0) hx hb dXM_add_10 (by decide) ?_
    exact tc_cri C0 hP hS h dXM_add_11
theorem k_XM_add (hJ : ∀ σ, va_D A (tc_cW ad cA σ)) {σ : tc_S} {l1 : Int32} {q : Int32 × tc_S} (h : m_XM_add σ l1 = some q) : Met l yXM_add [.code yXM_add cXM_add 6 (some .int)] (tc_R 2) (tc_Pc D cA (tc_cW ad cA σ) [.ref (ad 1), .int l1]) (tc_Qi D (tc_cW ad cA q.2) A q.1) 0 0 A :=
  tc_met (by decide) (Nat.le_of_ble_eq_true rfl) (fun _ _ _ _ _ _ _ C hP _ hl => w_XM_add_0 C hJ h hP va_S.rf hl)
def m_XM_instruct_147 (σ : tc_S) (l3 : Int32) : Option (Int32 × tc_S) := (some (l3, σ))
set_option maxHeartbeats 4000000 in
set_option maxRecDepth 100000 in
theorem w_XM_instruct_147 (C : tc_C p s m args meth c RXM cXM_instruct 4 (some .int) D cA) (hJ : ∀ σ, va_D A (tc_cW ad cA σ)) {q : Int32 × tc_S} {σ : tc_S} {l3 : Int32} {H : Heap} {locs : List Loc} {ls : Array Slot} (h : m_XM_instruct_147 σ l3 = some q) (hP : va_P D vwCl (tc_cW ad cA σ) H) (hS : va_S A s.heap H locs) (hl : lv_has ls 4 [(3, .int l3)]) : W p l e (tc_R 5) s m args below meth c H locs 0 0 (MQ below (tc_Qi D (tc_cW ad cA q.2) A q.1) args s 0 0 A) (F0 m 147 ls []) := by
  have C0 := C
  obtain ⟨hx, hb, hml, hown, ⟨hK, hN⟩, hr, hlk⟩ := C
  unfold m_XM_instruct_147 at h
  refine lv_iload_n hx hb dXM_instruct_147 rfl (lv_at hl 0 rfl) ?_
  exact tc_cri C0 hP hS h dXM_instruct_148
def m_XM_instruct_130 (σ : tc_S) (l1 l3 : Int32) : Option (Int32 × tc_S) := (if l3 = 0 then ((m_XM_raise (tc_sf σ 1 l1) 4).bind (fun q141 => (m_XM_instruct_147 q141 34))) else (m_XM_instruct_147 σ l3))
set_option maxHeartbeats 4000000 in
set_option maxRecDepth 100000 in
theorem w_XM_instruct_130 (C : tc_C p s m args meth c RXM cXM_instruct 4 (some .int) D cA) (hJ : ∀ σ, va_D A (tc_cW ad cA σ)) {q : Int32 × tc_S} {σ : tc_S} {l1 l3 : Int32} {H : Heap} {locs : List Loc} {ls : Array Slot} (h : m_XM_instruct_130 σ l1 l3 = some q) (hP : va_P D vwCl (tc_cW ad cA σ) H) (hS : va_S A s.heap H locs) (hl : lv_has ls 4 [(0, .ref (ad 1)), (1, .int l1), (3, .int l3)]) : W p l e (tc_R 5) s m args below meth c H locs 0 0 (MQ below (tc_Qi D (tc_cW ad cA q.2) A q.1) args s 0 0 A) (F0 m 130 ls []) := by
  have C0 := C
  obtain ⟨hx, hb, hml, hown, ⟨hK, hN⟩, hr, hlk⟩ := C
  unfold m_XM_instruct_130 at h
  refine lv_iload_n hx hb dXM_instruct_130 rfl (lv_at hl 2 rfl) ?_
  refine lv_if_ne (tgt := 147) hx hb dXM_instruct_131 (by decide) (fun hc => ?_) (fun hc => ?_)
  · have h := tc_in hc h
    exact w_XM_instruct_147 C0 hJ h hP hS (lv_sub hl [2] rfl)
  · have h := tc_ip hc h
    refine lv_aload_n hx hb dXM_instruct_134 rfl (lv_at hl 0 rfl) ?_
    refine lv_iload_n hx hb dXM_instruct_135 rfl (lv_at hl 1 rfl) ?_
    refine tc_cp1 C0 hJ hP hS (tc_use hN tw_235) dXM_instruct_136 (fun H locs hP hS => ?_)
    refine lv_aload_n hx hb dXM_instruct_139 rfl (lv_at hl 0 rfl) ?_
    refine lv_iconst (v := 4) hx hb dXM_instruct_140 (by decide) ?_
    obtain ⟨q141, e141, h⟩ := tc_bd_some h
    refine tc_cVv (As := [.int 4]) (rest := []) C0 (k_XM_raise hJ e141) tv_XM_53 (by decide) (by decide) hP hS hl 1 rfl rfl (Nat.le_of_ble_eq_true rfl) dXM_instruct_141 rfl (fun H locs hP hS => ?_)
    refine lv_bipush (v := 34) hx hb dXM_instruct_144 (by decide) ?_
    refine lv_istore_n (lv' := [(3, .int 34), (0, .ref (ad 1)), (1, .int l1)]) hx hb dXM_instruct_146 rfl hl (by decide) rfl (fun ls hl => ?_)
    exact w_XM_instruct_147 C0 hJ h hP hS (lv_sub hl [0] rfl)
def m_XM_instruct (σ : tc_S) : Option (Int32 × tc_S) := ((m_XM_nextWord σ).bind (fun q6 => (if (q6.1 >>> ((12 : Int32) &&& 31)) = 3 then ((m_XM_moveWord q6.2 q6.1).bind (fun q78 => (m_XM_instruct_130 q78.2 (tc_gf σ 1) q78.1))) else (if (q6.1 >>> ((12 : Int32) &&& 31)) = 4 then ((m_XM_controlMachine q6.2 q6.1).bind (fun q87 => (m_XM_instruct_130 q87.2 (tc_gf σ 1) q87.1))) else (if (q6.1 >>> ((12 : Int32) &&& 31)) = 5 then (m_XM_instruct_130 q6.2 (tc_gf σ 1) 0) else (if (q6.1 >>> ((12 : Int32) &&& 31)) = 6 then ((m_XM_branch q6.2 q6.1).bind (fun q96 => (m_XM_instruct_130 q96.2 (tc_gf σ 1) q96.1))) else (if (q6.1 >>> ((12 : Int32) &&& 31)) = 7 then ((m_XM_moveQuick q6.2 q6.1).bind (fun q105 => (m_XM_instruct_130 q105.2 (tc_gf σ 1) q105.1))) else (if (q6.1 >>> ((12 : Int32) &&& 31)) = 8 then (m_XM_instruct_130 q6.2 (tc_gf σ 1) 0) else (if (q6.1 >>> ((12 : Int32) &&& 31)) = 9 then (m_XM_instruct_130 q6.2 (tc_gf σ 1) 0) else (if (q6.1 >>> ((12 : Int32) &&& 31)) = 10 then (m_XM_instruct_130 q6.2 (tc_gf σ 1) 0) else (if (q6.1 >>> ((12 : Int32) &&& 31)) = 11 then ((m_XM_compare q6.2 q6.1).bind (fun q114 => (m_XM_instruct_130 q114.2 (tc_gf σ 1) q114.1))) else (if (q6.1 >>> ((12 : Int32) &&& 31)) = 12 then (m_XM_instruct_130 q6.2 (tc_gf σ 1) 0) else (if (q6.1 >>> ((12 : Int32) &&& 31)) = 13 then ((m_XM_add q6.2 q6.1).bind (fun q123 => (m_XM_instruct_130 q123.2 (tc_gf σ 1) q123.1))) else (m_XM_instruct_130 q6.2 (tc_gf σ 1) 0))))))))))))))
set_option maxHeartbeats 4000000 in
set_option maxRecDepth 100000 in
theorem w_XM_instruct_0 (C : tc_C p s m args meth c RXM cXM_instruct 4 (some .int) D cA) (hJ : ∀ σ, va_D A (tc_cW ad cA σ)) {q : Int32 × tc_S} {σ : tc_S} {H : Heap} {locs : List Loc} {ls : Array Slot} (h : m_XM_instruct σ = some q) (hP : va_P D vwCl (tc_cW ad cA σ) H) (hS : va_S A s.heap H locs) (hl : lv_has ls 4 [(0, .ref (ad 1))]) : W p l e (tc_R 5) s m args below meth c H locs 0 0 (MQ below (tc_Qi D (tc_cW ad cA q.2) A q.1) args s 0 0 A) (F0 m 0 ls []) := by
  have C0 := C
  obtain ⟨hx, hb, hml, hown, ⟨hK, hN⟩, hr, hlk⟩ := C
  unfold m_XM_instruct at h
  refine lv_aload_n hx hb dXM_instruct_0 rfl (lv_at hl 0 rfl) ?_
  refine tc_cg1 C0 hP (tc_use hN tw_235) dXM_instruct_1 ?_
  refine lv_istore_n (lv' := [(1, .int (tc_gf σ 1)), (0, .ref (ad 1))]) hx hb dXM_instruct_4 rfl hl (by decide) rfl (fun ls hl => ?_)
  refine lv_aload_n hx hb dXM_instruct_5 rfl (lv_at hl 1 rfl) ?_
  obtain ⟨q6, e6, h⟩ := tc_bd_some h
  refine tc_cVi (As := []) (rest := []) C0 (k_XM_nextWord hJ e6) tv_XM_56 (by decide) (by decide) hP hS hl 1 rfl rfl (Nat.le_of_ble_eq_true rfl) dXM_instruct_6 rfl (fun H locs hP hS => ?_)
  refine lv_istore_n (lv' := [(2, .int q6.1), (1, .int (tc_gf σ 1)), (0, .ref (ad 1))]) hx hb dXM_instruct_9 rfl hl (by decide) rfl (fun ls hl => ?_)
  refine lv_iconst (v := 0) hx hb dXM_instruct_10 (by decide) ?_
  refine lv_istore_n (lv' := [(3, .int 0), (2, .int q6.1), (1, .int (tc_gf σ 1)), (0, .ref (ad 1))]) hx hb dXM_instruct_11 rfl hl (by decide) rfl (fun ls hl => ?_)
  refine lv_iload_n hx hb dXM_instruct_12 rfl (lv_at hl 1 rfl) ?_
  refine lv_bipush (v := 12) hx hb dXM_instruct_13 (by decide) ?_
  refine lv_ishr hx hb dXM_instruct_15 ?_
  by_cases hc0 : (q6.1 >>> ((12 : Int32) &&& 31)) = 3
  · have h := tc_ip hc0 h
    refine lv_tableIn (off := 60) (tgt := 76) hx hb dXM_instruct_16 (by rw [hc0]; decide) (by rw [hc0]; decide) (by rw [hc0]; decide) (by decide) ?_
    refine lv_aload_n hx hb dXM_instruct_76 rfl (lv_at hl 3 rfl) ?_
    refine lv_iload_n hx hb dXM_instruct_77 rfl (lv_at hl 1 rfl) ?_
    obtain ⟨q78, e78, h⟩ := tc_bd_some h
    refine tc_cVi (As := [.int q6.1]) (rest := []) C0 (k_XM_moveWord hJ e78) tv_XM_60 (by decide) (by decide) hP hS hl 1 rfl rfl (Nat.le_of_ble_eq_true rfl) dXM_instruct_78 rfl (fun H locs hP hS => ?_)
    refine lv_istore_n (lv' := [(3, .int q78.1), (2, .int q6.1), (1, .int (tc_gf σ 1)), (0, .ref (ad 1))]) hx hb dXM_instruct_81 rfl hl (by decide) rfl (fun ls hl => ?_)
    refine lv_goto (tgt := 130) hx hb dXM_instruct_82 (by decide) ?_
    exact w_XM_instruct_130 C0 hJ h hP hS (lv_sub hl [3, 2, 0] rfl)
  have h := tc_in hc0 h
  by_cases hc1 : (q6.1 >>> ((12 : Int32) &&& 31)) = 4
  · have h := tc_ip hc1 h
    refine lv_tableIn (off := 69) (tgt := 85) hx hb dXM_instruct_16 (by rw [hc1]; decide) (by rw [hc1]; decide) (by rw [hc1]; decide) (by decide) ?_
    refine lv_aload_n hx hb dXM_instruct_85 rfl (lv_at hl 3 rfl) ?_
    refine lv_iload_n hx hb dXM_instruct_86 rfl (lv_at hl 1 rfl) ?_
    obtain ⟨q87, e87, h⟩ := tc_bd_some h
    refine tc_cVi (As := [.int q6.1]) (rest := []) C0 (k_XM_controlMachine hJ e87) tv_XM_63 (by decide) (by decide) hP hS hl 1 rfl rfl (Nat.le_of_ble_eq_true rfl) dXM_instruct_87 rfl (fun H locs hP hS => ?_)
    refine lv_istore_n (lv' := [(3, .int q87.1), (2, .int q6.1), (1, .int (tc_gf σ 1)), (0, .ref (ad 1))]) hx hb dXM_instruct_90 rfl hl (by decide) rfl (fun ls hl => ?_)
    refine lv_goto (tgt := 130) hx hb dXM_instruct_91 (by decide) ?_
    exact w_XM_instruct_130 C0 hJ h hP hS (lv_sub hl [3, 2, 0] rfl)
  have h := tc_in hc1 h
  by_cases hc2 : (q6.1 >>> ((12 : Int32) &&& 31)) = 5
  · have h := tc_ip hc2 h
    refine lv_tableIn (off := 114) (tgt := 130) hx hb dXM_instruct_16 (by rw [hc2]; decide) (by rw [hc2]; decide) (by rw [hc2]; decide) (by decide) ?_
    exact w_XM_instruct_130 C0 hJ h hP hS (lv_sub hl [3, 2, 0] rfl)
  have h := tc_in hc2 h
  by_cases hc3 : (q6.1 >>> ((12 : Int32) &&& 31)) = 6
  · have h := tc_ip hc3 h
    refine lv_tableIn (off := 78) (tgt := 94) hx hb dXM_instruct_16 (by rw [hc3]; decide) (by rw [hc3]; decide) (by rw [hc3]; decide) (by decide) ?_
    refine lv_aload_n hx hb dXM_instruct_94 rfl (lv_at hl 3 rfl) ?_
    refine lv_iload_n hx hb dXM_instruct_95 rfl (lv_at hl 1 rfl) ?_
    obtain ⟨q96, e96, h⟩ := tc_bd_some h
    refine tc_cVi (As := [.int q6.1]) (rest := []) C0 (k_XM_branch hJ e96) tv_XM_66 (by decide) (by decide) hP hS hl 1 rfl rfl (Nat.le_of_ble_eq_true rfl) dXM_instruct_96 rfl (fun H locs hP hS => ?_)
    refine lv_istore_n (lv' := [(3, .int q96.1), (2, .int q6.1), (1, .int (tc_gf σ 1)), (0, .ref (ad 1))]) hx hb dXM_instruct_99 rfl hl (by decide) rfl (fun ls hl => ?_)
    refine lv_goto (tgt := 130) hx hb dXM_instruct_100 (by decide) ?_
    exact w_XM_instruct_130 C0 hJ h hP hS (lv_sub hl [3, 2, 0] rfl)
  have h := tc_in hc3 h
  by_cases hc4 : (q6.1 >>> ((12 : Int32) &&& 31)) = 7
  · have h := tc_ip hc4 h
    refine lv_tableIn (off := 87) (tgt := 103) hx hb dXM_instruct_16 (by rw [hc4]; decide) (by rw [hc4]; decide) (by rw [hc4]; decide) (by decide) ?_
    refine lv_aload_n hx hb dXM_instruct_103 rfl (lv_at hl 3 rfl) ?_
    refine lv_iload_n hx hb dXM_instruct_104 rfl (lv_at hl 1 rfl) ?_
    obtain ⟨q105, e105, h⟩ := tc_bd_some h
    refine tc_cVi (As := [.int q6.1]) (rest := []) C0 (k_XM_moveQuick hJ e105) tv_XM_69 (by decide) (by decide) hP hS hl 1 rfl rfl (Nat.le_of_ble_eq_true rfl) dXM_instruct_105 rfl (fun H locs hP hS => ?_)
    refine lv_istore_n (lv' := [(3, .int q105.1), (2, .int q6.1), (1, .int (tc_gf σ 1)), (0, .ref (ad 1))]) hx hb dXM_instruct_108 rfl hl (by decide) rfl (fun ls hl => ?_)
    refine lv_goto (tgt := 130) hx hb dXM_instruct_109 (by decide) ?_
    exact w_XM_instruct_130 C0 hJ h hP hS (lv_sub hl [3, 2, 0] rfl)
  have h := tc_in hc4 h
  by_cases hc5 : (q6.1 >>> ((12 : Int32) &&& 31)) = 8
  · have h := tc_ip hc5 h
    refine lv_tableIn (off := 114) (tgt := 130) hx hb dXM_instruct_16 (by rw [hc5]; decide) (by rw [hc5]; decide) (by rw [hc5]; decide) (by decide) ?_
    exact w_XM_instruct_130 C0 hJ h hP hS (lv_sub hl [3, 2, 0] rfl)
  have h := tc_in hc5 h
  by_cases hc6 : (q6.1 >>> ((12 : Int32) &&& 31)) = 9
  · have h := tc_ip hc6 h
    refine lv_tableIn (off := 114) (tgt := 130) hx hb dXM_instruct_16 (by rw [hc6]; decide) (by rw [hc6]; decide) (by rw [hc6]; decide) (by decide) ?_
    exact w_XM_instruct_130 C0 hJ h hP hS (lv_sub hl [3, 2, 0] rfl)
  have h := tc_in hc6 h
  by_cases hc7 : (q6.1 >>> ((12 : Int32) &&& 31)) = 10
  · have h := tc_ip hc7 h
    refine lv_tableIn (off := 114) (tgt := 130) hx hb dXM_instruct_16 (by rw [hc7]; decide) (by rw [hc7]; decide) (by rw [hc7]; decide) (by decide) ?_
    exact w_XM_instruct_130 C0 hJ h hP hS (lv_sub hl [3, 2, 0] rfl)
  have h := tc_in hc7 h
  by_cases hc8 : (q6.1 >>> ((12 : Int32) &&& 31)) = 11
  · have h := tc_ip hc8 h
    refine lv_tableIn (off := 96) (tgt := 112) hx hb dXM_instruct_16 (by rw [hc8]; decide) (by rw [hc8]; decide) (by rw [hc8]; decide) (by decide) ?_
    refine lv_aload_n hx hb dXM_instruct_112 rfl (lv_at hl 3 rfl) ?_
    refine lv_iload_n hx hb dXM_instruct_113 rfl (lv_at hl 1 rfl) ?_
    obtain ⟨q114, e114, h⟩ := tc_bd_some h
    refine tc_cVi (As := [.int q6.1]) (rest := []) C0 (k_XM_compare hJ e114) tv_XM_72 (by decide) (by decide) hP hS hl 1 rfl rfl (Nat.le_of_ble_eq_true rfl) dXM_instruct_114 rfl (fun H locs hP hS => ?_)
    refine lv_istore_n (lv' := [(3, .int q114.1), (2, .int q6.1), (1, .int (tc_gf σ 1)), (0, .ref (ad 1))]) hx hb dXM_instruct_117 rfl hl (by decide) rfl (fun ls hl => ?_)
    refine lv_goto (tgt := 130) hx hb dXM_instruct_118 (by decide) ?_
    exact w_XM_instruct_130 C0 hJ h hP hS (lv_sub hl [3, 2, 0] rfl)
  have h := tc_in hc8 h
  by_cases hc9 : (q6.1 >>> ((12 : Int32) &&& 31)) = 12
  · have h := tc_ip hc9 h
    refine lv_tableIn (off := 114) (tgt := 130) hx hb dXM_instruct_16 (by rw [hc9]; decide) (by rw [hc9]; decide) (by rw [hc9]; decide) (by decide) ?_
    exact w_XM_instruct_130 C0 hJ h hP hS (lv_sub hl [3, 2, 0] rfl)
  have h := tc_in hc9 h
  by_cases hc10 : (q6.1 >>> ((12 : Int32) &&& 31)) = 13
  · have h := tc_ip hc10 h
    refine lv_tableIn (off := 105) (tgt := 121) hx hb dXM_instruct_16 (by rw [hc10]; decide) (by rw [hc10]; decide) (by rw [hc10]; decide) (by decide) ?_
    refine lv_aload_n hx hb dXM_instruct_121 rfl (lv_at hl 3 rfl) ?_
    refine lv_iload_n hx hb dXM_instruct_122 rfl (lv_at hl 1 rfl) ?_
    obtain ⟨q123, e123, h⟩ := tc_bd_some h
    refine tc_cVi (As := [.int q6.1]) (rest := []) C0 (k_XM_add hJ e123) tv_XM_75 (by decide) (by decide) hP hS hl 1 rfl rfl (Nat.le_of_ble_eq_true rfl) dXM_instruct_123 rfl (fun H locs hP hS => ?_)
    refine lv_istore_n (lv' := [(3, .int q123.1), (2, .int q6.1), (1, .int (tc_gf σ 1)), (0, .ref (ad 1))]) hx hb dXM_instruct_126 rfl hl (by decide) rfl (fun ls hl => ?_)
    refine lv_goto (tgt := 130) hx hb dXM_instruct_127 (by decide) ?_
    exact w_XM_instruct_130 C0 hJ h hP hS (lv_sub hl [3, 2, 0] rfl)
  have h := tc_in hc10 h
  have hn0 := lv_neT (a := 3) hc0 (by decide)
  have hn1 := lv_neT (a := 4) hc1 (by decide)
  have hn2 := lv_neT (a := 5) hc2 (by decide)
  have hn3 := lv_neT (a := 6) hc3 (by decide)
  have hn4 := lv_neT (a := 7) hc4 (by decide)
  have hn5 := lv_neT (a := 8) hc5 (by decide)
  have hn6 := lv_neT (a := 9) hc6 (by decide)
  have hn7 := lv_neT (a := 10) hc7 (by decide)
  have hn8 := lv_neT (a := 11) hc8 (by decide)
  have hn9 := lv_neT (a := 12) hc9 (by decide)
  have hn10 := lv_neT (a := 13) hc10 (by decide)
  refine lv_tableOut (tgt := 130) hx hb dXM_instruct_16 (by omega) (by decide) ?_
  exact w_XM_instruct_130 C0 hJ h hP hS (lv_sub hl [3, 2, 0] rfl)
theorem k_XM_instruct (hJ : ∀ σ, va_D A (tc_cW ad cA σ)) {σ : tc_S} {q : Int32 × tc_S} (h : m_XM_instruct σ = some q) : Met l yXM_instruct [.code yXM_instruct cXM_instruct 4 (some .int)] (tc_R 5) (tc_Pc D cA (tc_cW ad cA σ) [.ref (ad 1)]) (tc_Qi D (tc_cW ad cA q.2) A q.1) 0 0 A :=
  tc_met (by decide) (Nat.le_of_ble_eq_true rfl) (fun _ _ _ _ _ _ _ C hP _ hl => w_XM_instruct_0 C hJ h hP va_S.rf hl)
def m_XS_readByte_68 (σ : tc_S) (k0 : Int32) : Option (Int32 × tc_S) := (some (k0, σ))
set_option maxHeartbeats 4000000 in
set_option maxRecDepth 100000 in
theorem w_XS_readByte_68 (C : tc_C p s m args meth c RXS cXS_readByte 3 (some .int) D cA) (hJ : ∀ σ, va_D A (tc_cW ad cA σ)) {q : Int32 × tc_S} {σ : tc_S} {k0 : Int32} {H : Heap} {locs : List Loc} {ls : Array Slot} (h : m_XS_readByte_68 σ k0 = some q) (hP : va_P D vwCl (tc_cW ad cA σ) H) (hS : va_S A s.heap H locs) (hl : lv_has ls 3 []) : W p l e (tc_R 0) s m args below meth c H locs 0 0 (MQ below (tc_Qi D (tc_cW ad cA q.2) A q.1) args s 0 0 A) (F0 m 68 ls [.int k0]) := by
  have C0 := C
  obtain ⟨hx, hb, hml, hown, ⟨hK, hN⟩, hr, hlk⟩ := C
  unfold m_XS_readByte_68 at h
  exact tc_cri C0 hP hS h dXS_readByte_68
def m_XS_readByte (σ : tc_S) (l1 : Int32) : Option (Int32 × tc_S) := (if 32768 ≤ l1 then (tc_gd ((l1 &&& 511) >>> ((1 : Int32) &&& 31)) 256 (if (l1 &&& 1) = 0 then (m_XS_readByte_68 (tc_sf (tc_sf σ 17 ((tc_gf σ 17) - 3)) 18 ((tc_gf (tc_sf σ 17 ((tc_gf σ 17) - 3)) 18) + 11)) ((tc_ga (tc_sf (tc_sf σ 17 ((tc_gf σ 17) - 3)) 18 ((tc_gf (tc_sf σ 17 ((tc_gf σ 17) - 3)) 18) + 11)) 7 ((l1 &&& 511) >>> ((1 : Int32) &&& 31))) >>> ((8 : Int32) &&& 31))) else (m_XS_readByte_68 (tc_sf (tc_sf σ 17 ((tc_gf σ 17) - 3)) 18 ((tc_gf (tc_sf σ 17 ((tc_gf σ 17) - 3)) 18) + 11)) ((tc_ga (tc_sf (tc_sf σ 17 ((tc_gf σ 17) - 3)) 18 ((tc_gf (tc_sf σ 17 ((tc_gf σ 17) - 3)) 18) + 11)) 7 ((l1 &&& 511) >>> ((1 : Int32) &&& 31))) &&& 255)))) else (tc_gd (l1 &&& 127) 128 (some ((tc_ga σ 1 (l1 &&& 127)), σ))))
set_option maxHeartbeats 4000000 in
set_option maxRecDepth 100000 in
theorem w_XS_readByte_0 (C : tc_C p s m args meth c RXS cXS_readByte 3 (some .int) D cA) (hJ : ∀ σ, va_D A (tc_cW ad cA σ)) {q : Int32 × tc_S} {σ : tc_S} {l1 : Int32} {H : Heap} {locs : List Loc} {ls : Array Slot} (h : m_XS_readByte σ l1 = some q) (hP : va_P D vwCl (tc_cW ad cA σ) H) (hS : va_S A s.heap H locs) (hl : lv_has ls 3 [(0, .ref (ad 2)), (1, .int l1)]) : W p l e (tc_R 0) s m args below meth c H locs 0 0 (MQ below (tc_Qi D (tc_cW ad cA q.2) A q.1) args s 0 0 A) (F0 m 0 ls []) := by
  have C0 := C
  obtain ⟨hx, hb, hml, hown, ⟨hK, hN⟩, hr, hlk⟩ := C
  unfold m_XS_readByte at h
  refine lv_iload_n hx hb dXS_readByte_0 rfl (lv_at hl 1 rfl) ?_
  refine lv_ldc (v := 32768) hx hb hown (tc_use hN tw_510) dXS_readByte_1 ?_
  refine lv_icmp_ge (tgt := 16) hx hb dXS_readByte_3 (by decide) (fun hc => ?_) (fun hc => ?_)
  · have h := tc_ip hc h
    refine lv_aload_n hx hb dXS_readByte_16 rfl (lv_at hl 0 rfl) ?_
    refine lv_dup hx hb dXS_readByte_17 rfl ?_
    refine tc_cg17 C0 hP (tc_use hN tw_41) dXS_readByte_18 ?_
    refine lv_iconst (v := 3) hx hb dXS_readByte_21 (by decide) ?_
    refine lv_isub hx hb dXS_readByte_22 ?_
    refine tc_cp17 C0 hJ hP hS (tc_use hN tw_41) dXS_readByte_23 (fun H locs hP hS => ?_)
    refine lv_aload_n hx hb dXS_readByte_26 rfl (lv_at hl 0 rfl) ?_
    refine lv_dup hx hb dXS_readByte_27 rfl ?_
    refine tc_cg18 C0 hP (tc_use hN tw_42) dXS_readByte_28 ?_
    refine lv_bipush (v := 11) hx hb dXS_readByte_31 (by decide) ?_
    refine lv_iadd hx hb dXS_readByte_33 ?_
    refine tc_cp18 C0 hJ hP hS (tc_use hN tw_42) dXS_readByte_34 (fun H locs hP hS => ?_)
    refine lv_aload_n hx hb dXS_readByte_37 rfl (lv_at hl 0 rfl) ?_
    refine tc_cr_XS_romWords C0 hP (tc_use hN tw_23) dXS_readByte_38 ?_
    refine lv_iload_n hx hb dXS_readByte_41 rfl (lv_at hl 1 rfl) ?_
    refine lv_sipush (v := 511) hx hb dXS_readByte_42 (by decide) ?_
    refine lv_iand hx hb dXS_readByte_45 ?_
    refine lv_iconst (v := 1) hx hb dXS_readByte_46 (by decide) ?_
    refine lv_ishr hx hb dXS_readByte_47 ?_
    obtain ⟨hi, h⟩ := tc_gd_some h
    refine tc_cld7 C0 hP hi dXS_readByte_48 ?_
    refine lv_istore_n (lv' := [(2, .int (tc_ga (tc_sf (tc_sf σ 17 ((tc_gf σ 17) - 3)) 18 ((tc_gf (tc_sf σ 17 ((tc_gf σ 17) - 3)) 18) + 11)) 7 ((l1 &&& 511) >>> ((1 : Int32) &&& 31)))), (0, .ref (ad 2)), (1, .int l1)]) hx hb dXS_readByte_49 rfl hl (by decide) rfl (fun ls hl => ?_)
    refine lv_iload_n hx hb dXS_readByte_50 rfl (lv_at hl 2 rfl) ?_
    refine lv_iconst (v := 1) hx hb dXS_readByte_51 (by decide) ?_
    refine lv_iand hx hb dXS_readByte_52 ?_
    refine lv_if_ne (tgt := 63) hx hb dXS_readByte_53 (by decide) (fun hc => ?_) (fun hc => ?_)
    · have h := tc_in hc h
      refine lv_iload_n hx hb dXS_readByte_63 rfl (lv_at hl 0 rfl) ?_
      refine lv_sipush (v := 255) hx hb dXS_readByte_64 (by decide) ?_
      refine lv_iand hx hb dXS_readByte_67 ?_
      exact w_XS_readByte_68 C0 hJ h hP hS (lv_sub hl [] rfl)
    · have h := tc_ip hc h
      refine lv_iload_n hx hb dXS_readByte_56 rfl (lv_at hl 0 rfl) ?_
      refine lv_bipush (v := 8) hx hb dXS_readByte_57 (by decide) ?_
      refine lv_ishr hx hb dXS_readByte_59 ?_
      refine lv_goto (tgt := 68) hx hb dXS_readByte_60 (by decide) ?_
      exact w_XS_readByte_68 C0 hJ h hP hS (lv_sub hl [] rfl)
  · have h := tc_in hc h
    refine lv_aload_n hx hb dXS_readByte_6 rfl (lv_at hl 0 rfl) ?_
    refine tc_cr_XS_ram C0 hP (tc_use hN tw_24) dXS_readByte_7 ?_
    refine lv_iload_n hx hb dXS_readByte_10 rfl (lv_at hl 1 rfl) ?_
    refine lv_bipush (v := 127) hx hb dXS_readByte_11 (by decide) ?_
    refine lv_iand hx hb dXS_readByte_13 ?_
    obtain ⟨hi, h⟩ := tc_gd_some h
    refine tc_cld10 C0 hP hi dXS_readByte_14 ?_
    exact tc_cri C0 hP hS h dXS_readByte_15
theorem k_XS_readByte (hJ : ∀ σ, va_D A (tc_cW ad cA σ)) {σ : tc_S} {l1 : Int32} {q : Int32 × tc_S} (h : m_XS_readByte σ l1 = some q) : Met l yXS_readByte [.code yXS_readByte cXS_readByte 3 (some .int)] (tc_R 0) (tc_Pc D cA (tc_cW ad cA σ) [.ref (ad 2), .int l1]) (tc_Qi D (tc_cW ad cA q.2) A q.1) 0 0 A :=
  tc_met (by decide) (Nat.le_of_ble_eq_true rfl) (fun _ _ _ _ _ _ _ C hP _ hl => w_XS_readByte_0 C hJ h hP va_S.rf hl)
end WALK_C_03
