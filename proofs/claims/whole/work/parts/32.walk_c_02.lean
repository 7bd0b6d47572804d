section WALK_C_02
variable {p : Program} {l : Launch} {e : Env} {s : State} {m : MethodId} {args : Array Value} {below : List Frame} {meth : Method} {c : Code} {D : va_G} {cA : ClassId} {A : Nat → Prop} {ad : Nat → Nat}
def m_XP_vramWord (σ : tc_S) (l1 : Int32) : Option (Int32 × tc_S) := (tc_gd ((2 * l1) &&& 1023) 1024 (tc_gd (((2 * l1) &&& 1023) + 1) 1024 (some ((((tc_ga σ 2 ((2 * l1) &&& 1023)) * 256) + (tc_ga σ 2 (((2 * l1) &&& 1023) + 1))), σ))))
set_option maxHeartbeats 4000000 in
set_option maxRecDepth 100000 in
theorem w_XP_vramWord_0 (C : tc_C p s m args meth c RXP cXP_vramWord 3 (some .int) D cA) (hJ : ∀ σ, va_D A (tc_cW ad cA σ)) {q : Int32 × tc_S} {σ : tc_S} {l1 : Int32} {H : Heap} {locs : List Loc} {ls : Array Slot} (h : m_XP_vramWord σ l1 = some q) (hP : va_P D vwCl (tc_cW ad cA σ) H) (hS : va_S A s.heap H locs) (hl : lv_has ls 3 [(0, .ref (ad 3)), (1, .int l1)]) : W p l e (tc_R 0) s m args below meth c H locs 0 0 (MQ below (tc_Qi D (tc_cW ad cA q.2) A q.1) args s 0 0 A) (F0 m 0 ls []) := by
  have C0 := C
  obtain ⟨hx, hb, hml, hown, ⟨hK, hN⟩, hr, hlk⟩ := C
  unfold m_XP_vramWord at h
  refine lv_iconst (v := 2) hx hb dXP_vramWord_0 (by decide) ?_
  refine lv_iload_n hx hb dXP_vramWord_1 rfl (lv_at hl 1 rfl) ?_
  refine lv_imul hx hb dXP_vramWord_2 ?_
  refine lv_sipush (v := 1023) hx hb dXP_vramWord_3 (by decide) ?_
  refine lv_iand hx hb dXP_vramWord_6 ?_
  refine lv_istore_n (lv' := [(2, .int ((2 * l1) &&& 1023)), (0, .ref (ad 3)), (1, .int l1)]) hx hb dXP_vramWord_7 rfl hl (by decide) rfl (fun ls hl => ?_)
  refine lv_aload_n hx hb dXP_vramWord_8 rfl (lv_at hl 1 rfl) ?_
  refine tc_cr_XP_vramBytes C0 hP (tc_use hN tw_77) dXP_vramWord_9 ?_
  refine lv_iload_n hx hb dXP_vramWord_12 rfl (lv_at hl 0 rfl) ?_
  obtain ⟨hi, h⟩ := tc_gd_some h
  refine tc_cld11 C0 hP hi dXP_vramWord_13 ?_
  refine lv_sipush (v := 256) hx hb dXP_vramWord_14 (by decide) ?_
  refine lv_imul hx hb dXP_vramWord_17 ?_
  refine lv_aload_n hx hb dXP_vramWord_18 rfl (lv_at hl 1 rfl) ?_
  refine tc_cr_XP_vramBytes C0 hP (tc_use hN tw_77) dXP_vramWord_19 ?_
  refine lv_iload_n hx hb dXP_vramWord_22 rfl (lv_at hl 0 rfl) ?_
  refine lv_iconst (v := 1) hx hb dXP_vramWord_23 (by decide) ?_
  refine lv_iadd hx hb dXP_vramWord_24 ?_
  obtain ⟨hi, h⟩ := tc_gd_some h
  refine tc_cld11 C0 hP hi dXP_vramWord_25 ?_
  refine lv_iadd hx hb dXP_vramWord_26 ?_
  exact tc_cri C0 hP hS h dXP_vramWord_27
theorem k_XP_vramWord (hJ : ∀ σ, va_D A (tc_cW ad cA σ)) {σ : tc_S} {l1 : Int32} {q : Int32 × tc_S} (h : m_XP_vramWord σ l1 = some q) : Met l yXP_vramWord [.code yXP_vramWord cXP_vramWord 3 (some .int)] (tc_R 0) (tc_Pc D cA (tc_cW ad cA σ) [.ref (ad 3), .int l1]) (tc_Qi D (tc_cW ad cA q.2) A q.1) 0 0 A :=
  tc_met (by decide) (Nat.le_of_ble_eq_true rfl) (fun _ _ _ _ _ _ _ C hP _ hl => w_XP_vramWord_0 C hJ h hP va_S.rf hl)
def m_XP_readData_90 (σ : tc_S) (l2 : Int32) : Option (Int32 × tc_S) := ((m_XP_growAddress σ).bind (fun q91 => (some (l2, q91))))
set_option maxHeartbeats 4000000 in
set_option maxRecDepth 100000 in
theorem w_XP_readData_90 (C : tc_C p s m args meth c RXP cXP_readData 3 (some .int) D cA) (hJ : ∀ σ, va_D A (tc_cW ad cA σ)) {q : Int32 × tc_S} {σ : tc_S} {l2 : Int32} {H : Heap} {locs : List Loc} {ls : Array Slot} (h : m_XP_readData_90 σ l2 = some q) (hP : va_P D vwCl (tc_cW ad cA σ) H) (hS : va_S A s.heap H locs) (hl : lv_has ls 3 [(0, .ref (ad 3)), (2, .int l2)]) : W p l e (tc_R 1) s m args below meth c H locs 0 0 (MQ below (tc_Qi D (tc_cW ad cA q.2) A q.1) args s 0 0 A) (F0 m 90 ls []) := by
  have C0 := C
  obtain ⟨hx, hb, hml, hown, ⟨hK, hN⟩, hr, hlk⟩ := C
  unfold m_XP_readData_90 at h
  refine lv_aload_n hx hb dXP_readData_90 rfl (lv_at hl 0 rfl) ?_
  obtain ⟨q91, e91, h⟩ := tc_bd_some h
  refine tc_cVv (As := []) (rest := []) C0 (k_XP_growAddress hJ e91) tv_XP_67 (by decide) (by decide) hP hS hl 3 rfl rfl (Nat.le_of_ble_eq_true rfl) dXP_readData_91 rfl (fun H locs hP hS => ?_)
  refine lv_iload_n hx hb dXP_readData_94 rfl (lv_at hl 1 rfl) ?_
  exact tc_cri C0 hP hS h dXP_readData_95
def m_XP_readData (σ : tc_S) : Option (Int32 × tc_S) := (if ((tc_gf (tc_sf σ 21 0) 20) &&& 15) = 0 then ((m_XP_vramWord (tc_sf σ 21 0) ((tc_gf (tc_sf σ 21 0) 19) >>> ((1 : Int32) &&& 31))).bind (fun q58 => (m_XP_readData_90 q58.2 q58.1))) else (if ((tc_gf (tc_sf σ 21 0) 20) &&& 15) = 4 then (tc_gd (((tc_gf (tc_sf σ 21 0) 19) >>> ((1 : Int32) &&& 31)) &&& 1) 2 (m_XP_readData_90 (tc_sf σ 21 0) (tc_ga (tc_sf σ 21 0) 4 (((tc_gf (tc_sf σ 21 0) 19) >>> ((1 : Int32) &&& 31)) &&& 1)))) else (if ((tc_gf (tc_sf σ 21 0) 20) &&& 15) = 8 then (tc_gd (((tc_gf (tc_sf σ 21 0) 19) >>> ((1 : Int32) &&& 31)) &&& 15) 16 (m_XP_readData_90 (tc_sf σ 21 0) (tc_ga (tc_sf σ 21 0) 3 (((tc_gf (tc_sf σ 21 0) 19) >>> ((1 : Int32) &&& 31)) &&& 15)))) else (m_XP_readData_90 (tc_sf σ 21 0) 0))))
set_option maxHeartbeats 4000000 in
set_option maxRecDepth 100000 in
theorem w_XP_readData_0 (C : tc_C p s m args meth c RXP cXP_readData 3 (some .int) D cA) (hJ : ∀ σ, va_D A (tc_cW ad cA σ)) {q : Int32 × tc_S} {σ : tc_S} {H : Heap} {locs : List Loc} {ls : Array Slot} (h : m_XP_readData σ = some q) (hP : va_P D vwCl (tc_cW ad cA σ) H) (hS : va_S A s.heap H locs) (hl : lv_has ls 3 [(0, .ref (ad 3))]) : W p l e (tc_R 1) s m args below meth c H locs 0 0 (MQ below (tc_Qi D (tc_cW ad cA q.2) A q.1) args s 0 0 A) (F0 m 0 ls []) := by
  have C0 := C
  obtain ⟨hx, hb, hml, hown, ⟨hK, hN⟩, hr, hlk⟩ := C
  unfold m_XP_readData at h
  refine lv_aload_n hx hb dXP_readData_0 rfl (lv_at hl 0 rfl) ?_
  refine lv_iconst (v := 0) hx hb dXP_readData_1 (by decide) ?_
  refine tc_cp21 C0 hJ hP hS (tc_use hN tw_91) ⟨by decide, by decide⟩ dXP_readData_2 (fun H locs hP hS => ?_)
  refine lv_aload_n hx hb dXP_readData_5 rfl (lv_at hl 0 rfl) ?_
  refine tc_cg19 C0 hP (tc_use hN tw_87) dXP_readData_6 ?_
  refine lv_iconst (v := 1) hx hb dXP_readData_9 (by decide) ?_
  refine lv_ishr hx hb dXP_readData_10 ?_
  refine lv_istore_n (lv' := [(1, .int ((tc_gf (tc_sf σ 21 0) 19) >>> ((1 : Int32) &&& 31))), (0, .ref (ad 3))]) hx hb dXP_readData_11 rfl hl (by decide) rfl (fun ls hl => ?_)
  refine lv_iconst (v := 0) hx hb dXP_readData_12 (by decide) ?_
  refine lv_istore_n (lv' := [(2, .int 0), (1, .int ((tc_gf (tc_sf σ 21 0) 19) >>> ((1 : Int32) &&& 31))), (0, .ref (ad 3))]) hx hb dXP_readData_13 rfl hl (by decide) rfl (fun ls hl => ?_)
  refine lv_aload_n hx hb dXP_readData_14 rfl (lv_at hl 2 rfl) ?_
  refine tc_cg20 C0 hP (tc_use hN tw_89) dXP_readData_15 ?_
  refine lv_bipush (v := 15) hx hb dXP_readData_18 (by decide) ?_
  refine lv_iand hx hb dXP_readData_20 ?_
  by_cases hc0 : ((tc_gf (tc_sf σ 21 0) 20) &&& 15) = 0
  · have h := tc_ip hc0 h
    refine lv_lookup (off := 35) (tgt := 56) hx hb dXP_readData_21 (by decide) (by rw [hc0]; decide) (by decide) ?_
    refine lv_aload_n hx hb dXP_readData_56 rfl (lv_at hl 2 rfl) ?_
    refine lv_iload_n hx hb dXP_readData_57 rfl (lv_at hl 1 rfl) ?_
    obtain ⟨q58, e58, h⟩ := tc_bd_some h
    refine tc_cVi (As := [.int ((tc_gf (tc_sf σ 21 0) 19) >>> ((1 : Int32) &&& 31))]) (rest := []) C0 (k_XP_vramWord hJ e58) tv_XP_63 (by decide) (by decide) hP hS hl 3 rfl rfl (Nat.le_of_ble_eq_true rfl) dXP_readData_58 rfl (fun H locs hP hS => ?_)
    refine lv_istore_n (lv' := [(2, .int q58.1), (1, .int ((tc_gf (tc_sf σ 21 0) 19) >>> ((1 : Int32) &&& 31))), (0, .ref (ad 3))]) hx hb dXP_readData_61 rfl hl (by decide) rfl (fun ls hl => ?_)
    refine lv_goto (tgt := 90) hx hb dXP_readData_62 (by decide) ?_
    exact w_XP_readData_90 C0 hJ h hP hS (lv_sub hl [2, 0] rfl)
  have h := tc_in hc0 h
  by_cases hc1 : ((tc_gf (tc_sf σ 21 0) 20) &&& 15) = 4
  · have h := tc_ip hc1 h
    refine lv_lookup (off := 57) (tgt := 78) hx hb dXP_readData_21 (by decide) (by rw [hc1]; decide) (by decide) ?_
    refine lv_aload_n hx hb dXP_readData_78 rfl (lv_at hl 2 rfl) ?_
    refine tc_cr_XP_vsram C0 hP (tc_use hN tw_80) dXP_readData_79 ?_
    refine lv_iload_n hx hb dXP_readData_82 rfl (lv_at hl 1 rfl) ?_
    refine lv_iconst (v := 1) hx hb dXP_readData_83 (by decide) ?_
    refine lv_iand hx hb dXP_readData_84 ?_
    obtain ⟨hi, h⟩ := tc_gd_some h
    refine tc_cld13 C0 hP hi dXP_readData_85 ?_
    refine lv_istore_n (lv' := [(2, .int (tc_ga (tc_sf σ 21 0) 4 (((tc_gf (tc_sf σ 21 0) 19) >>> ((1 : Int32) &&& 31)) &&& 1))), (1, .int ((tc_gf (tc_sf σ 21 0) 19) >>> ((1 : Int32) &&& 31))), (0, .ref (ad 3))]) hx hb dXP_readData_86 rfl hl (by decide) rfl (fun ls hl => ?_)
    refine lv_goto (tgt := 90) hx hb dXP_readData_87 (by decide) ?_
    exact w_XP_readData_90 C0 hJ h hP hS (lv_sub hl [2, 0] rfl)
  have h := tc_in hc1 h
  by_cases hc2 : ((tc_gf (tc_sf σ 21 0) 20) &&& 15) = 8
  · have h := tc_ip hc2 h
    refine lv_lookup (off := 44) (tgt := 65) hx hb dXP_readData_21 (by decide) (by rw [hc2]; decide) (by decide) ?_
    refine lv_aload_n hx hb dXP_readData_65 rfl (lv_at hl 2 rfl) ?_
    refine tc_cr_XP_cram C0 hP (tc_use hN tw_78) dXP_readData_66 ?_
    refine lv_iload_n hx hb dXP_readData_69 rfl (lv_at hl 1 rfl) ?_
    refine lv_bipush (v := 15) hx hb dXP_readData_70 (by decide) ?_
    refine lv_iand hx hb dXP_readData_72 ?_
    obtain ⟨hi, h⟩ := tc_gd_some h
    refine tc_cld12 C0 hP hi dXP_readData_73 ?_
    refine lv_istore_n (lv' := [(2, .int (tc_ga (tc_sf σ 21 0) 3 (((tc_gf (tc_sf σ 21 0) 19) >>> ((1 : Int32) &&& 31)) &&& 15))), (1, .int ((tc_gf (tc_sf σ 21 0) 19) >>> ((1 : Int32) &&& 31))), (0, .ref (ad 3))]) hx hb dXP_readData_74 rfl hl (by decide) rfl (fun ls hl => ?_)
    refine lv_goto (tgt := 90) hx hb dXP_readData_75 (by decide) ?_
    exact w_XP_readData_90 C0 hJ h hP hS (lv_sub hl [2, 0] rfl)
  have h := tc_in hc2 h
  refine lv_lookup (off := 69) (tgt := 90) hx hb dXP_readData_21 (by decide) (by show Op.lookupswitch.offset [(0, 35), (4, 57), (8, 44)] _ _ = _; rw [lv_osw (a := 0) hc0 (by decide), lv_osw (a := 4) hc1 (by decide), lv_osw (a := 8) hc2 (by decide)]; rfl) (by decide) ?_
  exact w_XP_readData_90 C0 hJ h hP hS (lv_sub hl [2, 0] rfl)
theorem k_XP_readData (hJ : ∀ σ, va_D A (tc_cW ad cA σ)) {σ : tc_S} {q : Int32 × tc_S} (h : m_XP_readData σ = some q) : Met l yXP_readData [.code yXP_readData cXP_readData 3 (some .int)] (tc_R 1) (tc_Pc D cA (tc_cW ad cA σ) [.ref (ad 3)]) (tc_Qi D (tc_cW ad cA q.2) A q.1) 0 0 A :=
  tc_met (by decide) (Nat.le_of_ble_eq_true rfl) (fun _ _ _ _ _ _ _ C hP _ hl => w_XP_readData_0 C hJ h hP va_S.rf hl)
def m_XU_readStatus_91 (σ : tc_S) (k0 k1 : Int32) : Option (Int32 × tc_S) := (some ((k1 + k0), (tc_sf (tc_sf σ 25 0) 26 0)))
set_option maxHeartbeats 4000000 in
set_option maxRecDepth 100000 in
theorem w_XU_readStatus_91 (C : tc_C p s m args meth c RXU cXU_readStatus 2 (some .int) D cA) (hJ : ∀ σ, va_D A (tc_cW ad cA σ)) {q : Int32 × tc_S} {σ : tc_S} {k0 k1 : Int32} {H : Heap} {locs : List Loc} {ls : Array Slot} (h : m_XU_readStatus_91 σ k0 k1 = some q) (hP : va_P D vwCl (tc_cW ad cA σ) H) (hS : va_S A s.heap H locs) (hl : lv_has ls 2 [(0, .ref (ad 6))]) : W p l e (tc_R 1) s m args below meth c H locs 0 0 (MQ below (tc_Qi D (tc_cW ad cA q.2) A q.1) args s 0 0 A) (F0 m 91 ls [.int k0, .int k1]) := by
  have C0 := C
  obtain ⟨hx, hb, hml, hown, ⟨hK, hN⟩, hr, hlk⟩ := C
  unfold m_XU_readStatus_91 at h
  refine lv_iadd hx hb dXU_readStatus_91 ?_
  refine lv_istore_n (lv' := [(1, .int (k1 + k0)), (0, .ref (ad 6))]) hx hb dXU_readStatus_92 rfl hl (by decide) rfl (fun ls hl => ?_)
  refine lv_aload_n hx hb dXU_readStatus_93 rfl (lv_at hl 1 rfl) ?_
  refine tc_cr_XU_painter C0 hP (tc_use hN tw_202) dXU_readStatus_94 ?_
  refine lv_iconst (v := 0) hx hb dXU_readStatus_97 (by decide) ?_
  refine tc_cpN25 C0 hJ hP hS (tc_use hN tw_133) ⟨by decide, by decide⟩ dXU_readStatus_98 (fun H locs hP hS => ?_)
  refine lv_aload_n hx hb dXU_readStatus_101 rfl (lv_at hl 1 rfl) ?_
  refine tc_cr_XU_painter C0 hP (tc_use hN tw_202) dXU_readStatus_102 ?_
  refine lv_iconst (v := 0) hx hb dXU_readStatus_105 (by decide) ?_
  refine tc_cpN26 C0 hJ hP hS (tc_use hN tw_136) ⟨by decide, by decide⟩ dXU_readStatus_106 (fun H locs hP hS => ?_)
  refine lv_iload_n hx hb dXU_readStatus_109 rfl (lv_at hl 0 rfl) ?_
  exact tc_cri C0 hP hS h dXU_readStatus_110
def m_XU_readStatus_74 (σ : tc_S) (k0 k1 : Int32) : Option (Int32 × tc_S) := (if (tc_gf σ 26) = 0 then (m_XU_readStatus_91 σ 0 (k1 + k0)) else (m_XU_readStatus_91 σ 64 (k1 + k0)))
set_option maxHeartbeats 4000000 in
set_option maxRecDepth 100000 in
theorem w_XU_readStatus_74 (C : tc_C p s m args meth c RXU cXU_readStatus 2 (some .int) D cA) (hJ : ∀ σ, va_D A (tc_cW ad cA σ)) {q : Int32 × tc_S} {σ : tc_S} {k0 k1 : Int32} {H : Heap} {locs : List Loc} {ls : Array Slot} (h : m_XU_readStatus_74 σ k0 k1 = some q) (hP : va_P D vwCl (tc_cW ad cA σ) H) (hS : va_S A s.heap H locs) (hl : lv_has ls 2 [(0, .ref (ad 6))]) : W p l e (tc_R 1) s m args below meth c H locs 0 0 (MQ below (tc_Qi D (tc_cW ad cA q.2) A q.1) args s 0 0 A) (F0 m 74 ls [.int k0, .int k1]) := by
  have C0 := C
  obtain ⟨hx, hb, hml, hown, ⟨hK, hN⟩, hr, hlk⟩ := C
  unfold m_XU_readStatus_74 at h
  refine lv_iadd hx hb dXU_readStatus_74 ?_
  refine lv_aload_n hx hb dXU_readStatus_75 rfl (lv_at hl 0 rfl) ?_
  refine tc_cr_XU_painter C0 hP (tc_use hN tw_202) dXU_readStatus_76 ?_
  refine tc_cgN26 C0 hP (tc_use hN tw_136) dXU_readStatus_79 ?_
  refine lv_if_eq (tgt := 90) hx hb dXU_readStatus_82 (by decide) (fun hc => ?_) (fun hc => ?_)
  · have h := tc_ip hc h
    refine lv_iconst (v := 0) hx hb dXU_readStatus_90 (by decide) ?_
    exact w_XU_readStatus_91 C0 hJ h hP hS (lv_sub hl [0] rfl)
  · have h := tc_in hc h
    refine lv_bipush (v := 64) hx hb dXU_readStatus_85 (by decide) ?_
    refine lv_goto (tgt := 91) hx hb dXU_readStatus_87 (by decide) ?_
    exact w_XU_readStatus_91 C0 hJ h hP hS (lv_sub hl [0] rfl)
def m_XU_readStatus_57 (σ : tc_S) (k0 k1 : Int32) : Option (Int32 × tc_S) := (if (tc_gf σ 25) = 0 then (m_XU_readStatus_74 σ 0 (k1 + k0)) else (m_XU_readStatus_74 σ 32 (k1 + k0)))
set_option maxHeartbeats 4000000 in
set_option maxRecDepth 100000 in
theorem w_XU_readStatus_57 (C : tc_C p s m args meth c RXU cXU_readStatus 2 (some .int) D cA) (hJ : ∀ σ, va_D A (tc_cW ad cA σ)) {q : Int32 × tc_S} {σ : tc_S} {k0 k1 : Int32} {H : Heap} {locs : List Loc} {ls : Array Slot} (h : m_XU_readStatus_57 σ k0 k1 = some q) (hP : va_P D vwCl (tc_cW ad cA σ) H) (hS : va_S A s.heap H locs) (hl : lv_has ls 2 [(0, .ref (ad 6))]) : W p l e (tc_R 1) s m args below meth c H locs 0 0 (MQ below (tc_Qi D (tc_cW ad cA q.2) A q.1) args s 0 0 A) (F0 m 57 ls [.int k0, .int k1]) := by
  have C0 := C
  obtain ⟨hx, hb, hml, hown, ⟨hK, hN⟩, hr, hlk⟩ := C
  unfold m_XU_readStatus_57 at h
  refine lv_iadd hx hb dXU_readStatus_57 ?_
  refine lv_aload_n hx hb dXU_readStatus_58 rfl (lv_at hl 0 rfl) ?_
  refine tc_cr_XU_painter C0 hP (tc_use hN tw_202) dXU_readStatus_59 ?_
  refine tc_cgN25 C0 hP (tc_use hN tw_133) dXU_readStatus_62 ?_
  refine lv_if_eq (tgt := 73) hx hb dXU_readStatus_65 (by decide) (fun hc => ?_) (fun hc => ?_)
  · have h := tc_ip hc h
    refine lv_iconst (v := 0) hx hb dXU_readStatus_73 (by decide) ?_
    exact w_XU_readStatus_74 C0 hJ h hP hS (lv_sub hl [0] rfl)
  · have h := tc_in hc h
    refine lv_bipush (v := 32) hx hb dXU_readStatus_68 (by decide) ?_
    refine lv_goto (tgt := 74) hx hb dXU_readStatus_70 (by decide) ?_
    exact w_XU_readStatus_74 C0 hJ h hP hS (lv_sub hl [0] rfl)
def m_XU_readStatus_40 (σ : tc_S) (k0 k1 : Int32) : Option (Int32 × tc_S) := (if (tc_gf σ 31) = 0 then (m_XU_readStatus_57 σ 0 (k1 + k0)) else (m_XU_readStatus_57 σ 8 (k1 + k0)))
set_option maxHeartbeats 4000000 in
set_option maxRecDepth 100000 in
theorem w_XU_readStatus_40 (C : tc_C p s m args meth c RXU cXU_readStatus 2 (some .int) D cA) (hJ : ∀ σ, va_D A (tc_cW ad cA σ)) {q : Int32 × tc_S} {σ : tc_S} {k0 k1 : Int32} {H : Heap} {locs : List Loc} {ls : Array Slot} (h : m_XU_readStatus_40 σ k0 k1 = some q) (hP : va_P D vwCl (tc_cW ad cA σ) H) (hS : va_S A s.heap H locs) (hl : lv_has ls 2 [(0, .ref (ad 6))]) : W p l e (tc_R 1) s m args below meth c H locs 0 0 (MQ below (tc_Qi D (tc_cW ad cA q.2) A q.1) args s 0 0 A) (F0 m 40 ls [.int k0, .int k1]) := by
  have C0 := C
  obtain ⟨hx, hb, hml, hown, ⟨hK, hN⟩, hr, hlk⟩ := C
  unfold m_XU_readStatus_40 at h
  refine lv_iadd hx hb dXU_readStatus_40 ?_
  refine lv_aload_n hx hb dXU_readStatus_41 rfl (lv_at hl 0 rfl) ?_
  refine tc_cr_XU_beam C0 hP (tc_use hN tw_203) dXU_readStatus_42 ?_
  refine tc_cgN31 C0 hP (tc_use hN tw_173) dXU_readStatus_45 ?_
  refine lv_if_eq (tgt := 56) hx hb dXU_readStatus_48 (by decide) (fun hc => ?_) (fun hc => ?_)
  · have h := tc_ip hc h
    refine lv_iconst (v := 0) hx hb dXU_readStatus_56 (by decide) ?_
    exact w_XU_readStatus_57 C0 hJ h hP hS (lv_sub hl [0] rfl)
  · have h := tc_in hc h
    refine lv_bipush (v := 8) hx hb dXU_readStatus_51 (by decide) ?_
    refine lv_goto (tgt := 57) hx hb dXU_readStatus_53 (by decide) ?_
    exact w_XU_readStatus_57 C0 hJ h hP hS (lv_sub hl [0] rfl)
def m_XU_readStatus_23 (σ : tc_S) (k0 : Int32) : Option (Int32 × tc_S) := (if (tc_gf σ 27) < 8 then (m_XU_readStatus_40 σ 0 k0) else (m_XU_readStatus_40 σ 4 k0))
set_option maxHeartbeats 4000000 in
set_option maxRecDepth 100000 in
theorem w_XU_readStatus_23 (C : tc_C p s m args meth c RXU cXU_readStatus 2 (some .int) D cA) (hJ : ∀ σ, va_D A (tc_cW ad cA σ)) {q : Int32 × tc_S} {σ : tc_S} {k0 : Int32} {H : Heap} {locs : List Loc} {ls : Array Slot} (h : m_XU_readStatus_23 σ k0 = some q) (hP : va_P D vwCl (tc_cW ad cA σ) H) (hS : va_S A s.heap H locs) (hl : lv_has ls 2 [(0, .ref (ad 6))]) : W p l e (tc_R 1) s m args below meth c H locs 0 0 (MQ below (tc_Qi D (tc_cW ad cA q.2) A q.1) args s 0 0 A) (F0 m 23 ls [.int k0]) := by
  have C0 := C
  obtain ⟨hx, hb, hml, hown, ⟨hK, hN⟩, hr, hlk⟩ := C
  unfold m_XU_readStatus_23 at h
  refine lv_aload_n hx hb dXU_readStatus_23 rfl (lv_at hl 0 rfl) ?_
  refine tc_cr_XU_beam C0 hP (tc_use hN tw_203) dXU_readStatus_24 ?_
  refine tc_cgN27 C0 hP (tc_use hN tw_165) dXU_readStatus_27 ?_
  refine lv_bipush (v := 8) hx hb dXU_readStatus_30 (by decide) ?_
  refine lv_icmp_lt (tgt := 39) hx hb dXU_readStatus_32 (by decide) (fun hc => ?_) (fun hc => ?_)
  · have h := tc_ip hc h
    refine lv_iconst (v := 0) hx hb dXU_readStatus_39 (by decide) ?_
    exact w_XU_readStatus_40 C0 hJ h hP hS (lv_sub hl [0] rfl)
  · have h := tc_in hc h
    refine lv_iconst (v := 4) hx hb dXU_readStatus_35 (by decide) ?_
    refine lv_goto (tgt := 40) hx hb dXU_readStatus_36 (by decide) ?_
    exact w_XU_readStatus_40 C0 hJ h hP hS (lv_sub hl [0] rfl)
def m_XU_readStatus (σ : tc_S) : Option (Int32 × tc_S) := ((m_XP_movesFromMemory (tc_sf σ 21 0)).bind (fun q12 => (if q12.1 = 0 then (m_XU_readStatus_23 q12.2 0) else (m_XU_readStatus_23 q12.2 2))))
set_option maxHeartbeats 4000000 in
set_option maxRecDepth 100000 in
theorem w_XU_readStatus_0 (C : tc_C p s m args meth c RXU cXU_readStatus 2 (some .int) D cA) (hJ : ∀ σ, va_D A (tc_cW ad cA σ)) {q : Int32 × tc_S} {σ : tc_S} {H : Heap} {locs : List Loc} {ls : Array Slot} (h : m_XU_readStatus σ = some q) (hP : va_P D vwCl (tc_cW ad cA σ) H) (hS : va_S A s.heap H locs) (hl : lv_has ls 2 [(0, .ref (ad 6))]) : W p l e (tc_R 1) s m args below meth c H locs 0 0 (MQ below (tc_Qi D (tc_cW ad cA q.2) A q.1) args s 0 0 A) (F0 m 0 ls []) := by
  have C0 := C
  obtain ⟨hx, hb, hml, hown, ⟨hK, hN⟩, hr, hlk⟩ := C
  unfold m_XU_readStatus at h
  refine lv_aload_n hx hb dXU_readStatus_0 rfl (lv_at hl 0 rfl) ?_
  refine tc_cr_XU_picture C0 hP (tc_use hN tw_201) dXU_readStatus_1 ?_
  refine lv_iconst (v := 0) hx hb dXU_readStatus_4 (by decide) ?_
  refine tc_cpN21 C0 hJ hP hS (tc_use hN tw_92) ⟨by decide, by decide⟩ dXU_readStatus_5 (fun H locs hP hS => ?_)
  refine lv_aload_n hx hb dXU_readStatus_8 rfl (lv_at hl 0 rfl) ?_
  refine tc_cr_XU_picture C0 hP (tc_use hN tw_201) dXU_readStatus_9 ?_
  obtain ⟨q12, e12, h⟩ := tc_bd_some h
  refine tc_cVi (As := []) (rest := []) C0 (k_XP_movesFromMemory hJ e12) tv_XU_95 (by decide) (by decide) hP hS hl 3 rfl rfl (Nat.le_of_ble_eq_true rfl) dXU_readStatus_12 rfl (fun H locs hP hS => ?_)
  refine lv_if_eq (tgt := 22) hx hb dXU_readStatus_15 (by decide) (fun hc => ?_) (fun hc => ?_)
  · have h := tc_ip hc h
    refine lv_iconst (v := 0) hx hb dXU_readStatus_22 (by decide) ?_
    exact w_XU_readStatus_23 C0 hJ h hP hS (lv_sub hl [0] rfl)
  · have h := tc_in hc h
    refine lv_iconst (v := 2) hx hb dXU_readStatus_18 (by decide) ?_
    refine lv_goto (tgt := 23) hx hb dXU_readStatus_19 (by decide) ?_
    exact w_XU_readStatus_23 C0 hJ h hP hS (lv_sub hl [0] rfl)
theorem k_XU_readStatus (hJ : ∀ σ, va_D A (tc_cW ad cA σ)) {σ : tc_S} {q : Int32 × tc_S} (h : m_XU_readStatus σ = some q) : Met l yXU_readStatus [.code yXU_readStatus cXU_readStatus 2 (some .int)] (tc_R 1) (tc_Pc D cA (tc_cW ad cA σ) [.ref (ad 6)]) (tc_Qi D (tc_cW ad cA q.2) A q.1) 0 0 A :=
  tc_met (by decide) (Nat.le_of_ble_eq_true rfl) (fun _ _ _ _ _ _ _ C hP _ hl => w_XU_readStatus_0 C hJ h hP va_S.rf hl)
def m_XU_readPad (σ : tc_S) : Option (Int32 × tc_S) := (if (tc_gf σ 33) = 0 then (some (((((tc_gf σ 32) >>> ((2 : Int32) &&& 31)) &&& 48) ||| ((tc_gf σ 32) &&& 3)), σ)) else (some (((tc_gf σ 33) ||| ((tc_gf σ 32) &&& 63)), σ)))
set_option maxHeartbeats 4000000 in
set_option maxRecDepth 100000 in
theorem w_XU_readPad_0 (C : tc_C p s m args meth c RXU cXU_readPad 1 (some .int) D cA) (hJ : ∀ σ, va_D A (tc_cW ad cA σ)) {q : Int32 × tc_S} {σ : tc_S} {H : Heap} {locs : List Loc} {ls : Array Slot} (h : m_XU_readPad σ = some q) (hP : va_P D vwCl (tc_cW ad cA σ) H) (hS : va_S A s.heap H locs) (hl : lv_has ls 1 [(0, .ref (ad 6))]) : W p l e (tc_R 0) s m args below meth c H locs 0 0 (MQ below (tc_Qi D (tc_cW ad cA q.2) A q.1) args s 0 0 A) (F0 m 0 ls []) := by
  have C0 := C
  obtain ⟨hx, hb, hml, hown, ⟨hK, hN⟩, hr, hlk⟩ := C
  unfold m_XU_readPad at h
  refine lv_aload_n hx hb dXU_readPad_0 rfl (lv_at hl 0 rfl) ?_
  refine tc_cg33 C0 hP (tc_use hN tw_206) dXU_readPad_1 ?_
  refine lv_if_eq (tgt := 20) hx hb dXU_readPad_4 (by decide) (fun hc => ?_) (fun hc => ?_)
  · have h := tc_ip hc h
    refine lv_aload_n hx hb dXU_readPad_20 rfl (lv_at hl 0 rfl) ?_
    refine tc_cg32 C0 hP (tc_use hN tw_205) dXU_readPad_21 ?_
    refine lv_iconst (v := 2) hx hb dXU_readPad_24 (by decide) ?_
    refine lv_ishr hx hb dXU_readPad_25 ?_
    refine lv_bipush (v := 48) hx hb dXU_readPad_26 (by decide) ?_
    refine lv_iand hx hb dXU_readPad_28 ?_
    refine lv_aload_n hx hb dXU_readPad_29 rfl (lv_at hl 0 rfl) ?_
    refine tc_cg32 C0 hP (tc_use hN tw_205) dXU_readPad_30 ?_
    refine lv_iconst (v := 3) hx hb dXU_readPad_33 (by decide) ?_
    refine lv_iand hx hb dXU_readPad_34 ?_
    refine lv_ior hx hb dXU_readPad_35 ?_
    exact tc_cri C0 hP hS h dXU_readPad_36
  · have h := tc_in hc h
    refine lv_aload_n hx hb dXU_readPad_7 rfl (lv_at hl 0 rfl) ?_
    refine tc_cg33 C0 hP (tc_use hN tw_206) dXU_readPad_8 ?_
    refine lv_aload_n hx hb dXU_readPad_11 rfl (lv_at hl 0 rfl) ?_
    refine tc_cg32 C0 hP (tc_use hN tw_205) dXU_readPad_12 ?_
    refine lv_bipush (v := 63) hx hb dXU_readPad_15 (by decide) ?_
    refine lv_iand hx hb dXU_readPad_17 ?_
    refine lv_ior hx hb dXU_readPad_18 ?_
    exact tc_cri C0 hP hS h dXU_readPad_19
theorem k_XU_readPad (hJ : ∀ σ, va_D A (tc_cW ad cA σ)) {σ : tc_S} {q : Int32 × tc_S} (h : m_XU_readPad σ = some q) : Met l yXU_readPad [.code yXU_readPad cXU_readPad 1 (some .int)] (tc_R 0) (tc_Pc D cA (tc_cW ad cA σ) [.ref (ad 6)]) (tc_Qi D (tc_cW ad cA q.2) A q.1) 0 0 A :=
  tc_met (by decide) (Nat.le_of_ble_eq_true rfl) (fun _ _ _ _ _ _ _ C hP _ hl => w_XU_readPad_0 C hJ h hP va_S.rf hl)
def m_XU_read_102 (σ : tc_S) (k0 : Int32) : Option (Int32 × tc_S) := (some (k0, σ))
set_option maxHeartbeats 4000000 in
set_option maxRecDepth 100000 in
theorem w_XU_read_102 (C : tc_C p s m args meth c RXU cXU_read 2 (some .int) D cA) (hJ : ∀ σ, va_D A (tc_cW ad cA σ)) {q : Int32 × tc_S} {σ : tc_S} {k0 : Int32} {H : Heap} {locs : List Loc} {ls : Array Slot} (h : m_XU_read_102 σ k0 = some q) (hP : va_P D vwCl (tc_cW ad cA σ) H) (hS : va_S A s.heap H locs) (hl : lv_has ls 2 []) : W p l e (tc_R 2) s m args below meth c H locs 0 0 (MQ below (tc_Qi D (tc_cW ad cA q.2) A q.1) args s 0 0 A) (F0 m 102 ls [.int k0]) := by
  have C0 := C
  obtain ⟨hx, hb, hml, hown, ⟨hK, hN⟩, hr, hlk⟩ := C
  unfold m_XU_read_102 at h
  exact tc_cri C0 hP hS h dXU_read_102
def m_XU_read (σ : tc_S) (l1 : Int32) : Option (Int32 × tc_S) := (if l1 = 1024 then ((m_XP_readData σ).bind (fun q56 => (some (q56.1, q56.2)))) else (if l1 = 1028 then ((m_XU_readStatus σ).bind (fun q61 => (some (q61.1, q61.2)))) else (if l1 = 1032 then (some ((((tc_gf σ 27) * 256) + (tc_gf σ 28)), σ)) else (if l1 = 1040 then (if (tc_gf σ 15) = 0 then (m_XU_read_102 σ 256) else (m_XU_read_102 σ 0)) else (if l1 = 1048 then ((m_XU_readPad σ).bind (fun q104 => (some (q104.1, q104.2)))) else ((m_XU_readQuietly σ l1).bind (fun q110 => (some (q110.1, q110.2)))))))))
set_option maxHeartbeats 4000000 in
set_option maxRecDepth 100000 in
theorem w_XU_read_0 (C : tc_C p s m args meth c RXU cXU_read 2 (some .int) D cA) (hJ : ∀ σ, va_D A (tc_cW ad cA σ)) {q : Int32 × tc_S} {σ : tc_S} {l1 : Int32} {H : Heap} {locs : List Loc} {ls : Array Slot} (h : m_XU_read σ l1 = some q) (hP : va_P D vwCl (tc_cW ad cA σ) H) (hS : va_S A s.heap H locs) (hl : lv_has ls 2 [(0, .ref (ad 6)), (1, .int l1)]) : W p l e (tc_R 2) s m args below meth c H locs 0 0 (MQ below (tc_Qi D (tc_cW ad cA q.2) A q.1) args s 0 0 A) (F0 m 0 ls []) := by
  have C0 := C
  obtain ⟨hx, hb, hml, hown, ⟨hK, hN⟩, hr, hlk⟩ := C
  unfold m_XU_read at h
  refine lv_iload_n hx hb dXU_read_0 rfl (lv_at hl 1 rfl) ?_
  by_cases hc0 : l1 = 1024
  · have h := tc_ip hc0 h
    refine lv_lookup (off := 51) (tgt := 52) hx hb dXU_read_1 (by decide) (by rw [hc0]; decide) (by decide) ?_
    refine lv_aload_n hx hb dXU_read_52 rfl (lv_at hl 0 rfl) ?_
    refine tc_cr_XU_picture C0 hP (tc_use hN tw_201) dXU_read_53 ?_
    obtain ⟨q56, e56, h⟩ := tc_bd_some h
    refine tc_cVi (As := []) (rest := []) C0 (k_XP_readData hJ e56) tv_XU_39 (by decide) (by decide) hP hS hl 3 rfl rfl (Nat.le_of_ble_eq_true rfl) dXU_read_56 rfl (fun H locs hP hS => ?_)
    exact tc_cri C0 hP hS h dXU_read_59
  have h := tc_in hc0 h
  by_cases hc1 : l1 = 1028
  · have h := tc_ip hc1 h
    refine lv_lookup (off := 59) (tgt := 60) hx hb dXU_read_1 (by decide) (by rw [hc1]; decide) (by decide) ?_
    refine lv_aload_n hx hb dXU_read_60 rfl (lv_at hl 0 rfl) ?_
    obtain ⟨q61, e61, h⟩ := tc_bd_some h
    refine tc_cVi (As := []) (rest := []) C0 (k_XU_readStatus hJ e61) tv_XU_45 (by decide) (by decide) hP hS hl 6 rfl rfl (Nat.le_of_ble_eq_true rfl) dXU_read_61 rfl (fun H locs hP hS => ?_)
    exact tc_cri C0 hP hS h dXU_read_64
  have h := tc_in hc1 h
  by_cases hc2 : l1 = 1032
  · have h := tc_ip hc2 h
    refine lv_lookup (off := 64) (tgt := 65) hx hb dXU_read_1 (by decide) (by rw [hc2]; decide) (by decide) ?_
    refine lv_aload_n hx hb dXU_read_65 rfl (lv_at hl 0 rfl) ?_
    refine tc_cr_XU_beam C0 hP (tc_use hN tw_203) dXU_read_66 ?_
    refine tc_cgN27 C0 hP (tc_use hN tw_165) dXU_read_69 ?_
    refine lv_sipush (v := 256) hx hb dXU_read_72 (by decide) ?_
    refine lv_imul hx hb dXU_read_75 ?_
    refine lv_aload_n hx hb dXU_read_76 rfl (lv_at hl 0 rfl) ?_
    refine tc_cr_XU_beam C0 hP (tc_use hN tw_203) dXU_read_77 ?_
    refine tc_cgN28 C0 hP (tc_use hN tw_167) dXU_read_80 ?_
    refine lv_iadd hx hb dXU_read_83 ?_
    exact tc_cri C0 hP hS h dXU_read_84
  have h := tc_in hc2 h
  by_cases hc3 : l1 = 1040
  · have h := tc_ip hc3 h
    refine lv_lookup (off := 84) (tgt := 85) hx hb dXU_read_1 (by decide) (by rw [hc3]; decide) (by decide) ?_
    refine lv_aload_n hx hb dXU_read_85 rfl (lv_at hl 0 rfl) ?_
    refine tc_cr_XU_second C0 hP (tc_use hN tw_200) dXU_read_86 ?_
    refine tc_cgN15 C0 hP (tc_use hN tw_39) dXU_read_89 ?_
    refine lv_if_eq (tgt := 99) hx hb dXU_read_92 (by decide) (fun hc => ?_) (fun hc => ?_)
    · have h := tc_ip hc h
      refine lv_sipush (v := 256) hx hb dXU_read_99 (by decide) ?_
      exact w_XU_read_102 C0 hJ h hP hS (lv_sub hl [] rfl)
    · have h := tc_in hc h
      refine lv_iconst (v := 0) hx hb dXU_read_95 (by decide) ?_
      refine lv_goto (tgt := 102) hx hb dXU_read_96 (by decide) ?_
      exact w_XU_read_102 C0 hJ h hP hS (lv_sub hl [] rfl)
  have h := tc_in hc3 h
  by_cases hc4 : l1 = 1048
  · have h := tc_ip hc4 h
    refine lv_lookup (off := 102) (tgt := 103) hx hb dXU_read_1 (by decide) (by rw [hc4]; decide) (by decide) ?_
    refine lv_aload_n hx hb dXU_read_103 rfl (lv_at hl 0 rfl) ?_
    obtain ⟨q104, e104, h⟩ := tc_bd_some h
    refine tc_cVi (As := []) (rest := []) C0 (k_XU_readPad hJ e104) tv_XU_61 (by decide) (by decide) hP hS hl 6 rfl rfl (Nat.le_of_ble_eq_true rfl) dXU_read_104 rfl (fun H locs hP hS => ?_)
    exact tc_cri C0 hP hS h dXU_read_107
  have h := tc_in hc4 h
  refine lv_lookup (off := 107) (tgt := 108) hx hb dXU_read_1 (by decide) (by show Op.lookupswitch.offset [(1024, 51), (1028, 59), (1032, 64), (1040, 84), (1048, 102)] _ _ = _; rw [lv_osw (a := 1024) hc0 (by decide), lv_osw (a := 1028) hc1 (by decide), lv_osw (a := 1032) hc2 (by decide), lv_osw (a := 1040) hc3 (by decide), lv_osw (a := 1048) hc4 (by decide)]; rfl) (by decide) ?_
  refine lv_aload_n hx hb dXU_read_108 rfl (lv_at hl 0 rfl) ?_
  refine lv_iload_n hx hb dXU_read_109 rfl (lv_at hl 1 rfl) ?_
  obtain ⟨q110, e110, h⟩ := tc_bd_some h
  refine tc_cVi (As := [.int l1]) (rest := []) C0 (k_XU_readQuietly hJ e110) tv_XU_64 (by decide) (by decide) hP hS hl 6 rfl rfl (Nat.le_of_ble_eq_true rfl) dXU_read_110 rfl (fun H locs hP hS => ?_)
  exact tc_cri C0 hP hS h dXU_read_113
theorem k_XU_read (hJ : ∀ σ, va_D A (tc_cW ad cA σ)) {σ : tc_S} {l1 : Int32} {q : Int32 × tc_S} (h : m_XU_read σ l1 = some q) : Met l yXU_read [.code yXU_read cXU_read 2 (some .int)] (tc_R 2) (tc_Pc D cA (tc_cW ad cA σ) [.ref (ad 6), .int l1]) (tc_Qi D (tc_cW ad cA q.2) A q.1) 0 0 A :=
  tc_met (by decide) (Nat.le_of_ble_eq_true rfl) (fun _ _ _ _ _ _ _ C hP _ hl => w_XU_read_0 C hJ h hP va_S.rf hl)
def m_XM_setLowWord (σ : tc_S) (l1 l2 : Int32) : Option (tc_S) := (tc_gd l1 8 (tc_gd l1 8 (some (tc_sa σ 0 l1 (((tc_ga σ 0 l1) &&& (-65536)) ||| (l2 &&& 65535))))))
set_option maxHeartbeats 4000000 in
set_option maxRecDepth 100000 in
theorem w_XM_setLowWord_0 (C : tc_C p s m args meth c RXM cXM_setLowWord 3 none D cA) (hJ : ∀ σ, va_D A (tc_cW ad cA σ)) {q : tc_S} {σ : tc_S} {l1 l2 : Int32} {H : Heap} {locs : List Loc} {ls : Array Slot} (h : m_XM_setLowWord σ l1 l2 = some q) (hP : va_P D vwCl (tc_cW ad cA σ) H) (hS : va_S A s.heap H locs) (hl : lv_has ls 3 [(0, .ref (ad 1)), (1, .int l1), (2, .int l2)]) : W p l e (tc_R 0) s m args below meth c H locs 0 0 (MQ below (tc_Qv D (tc_cW ad cA q) A) args s 0 0 A) (F0 m 0 ls []) := by
  have C0 := C
  obtain ⟨hx, hb, hml, hown, ⟨hK, hN⟩, hr, hlk⟩ := C
  unfold m_XM_setLowWord at h
  refine lv_aload_n hx hb dXM_setLowWord_0 rfl (lv_at hl 0 rfl) ?_
  refine tc_cr_XM_d C0 hP (tc_use hN tw_231) dXM_setLowWord_1 ?_
  refine lv_iload_n hx hb dXM_setLowWord_4 rfl (lv_at hl 1 rfl) ?_
  refine lv_aload_n hx hb dXM_setLowWord_5 rfl (lv_at hl 0 rfl) ?_
  refine tc_cr_XM_d C0 hP (tc_use hN tw_231) dXM_setLowWord_6 ?_
  refine lv_iload_n hx hb dXM_setLowWord_9 rfl (lv_at hl 1 rfl) ?_
  obtain ⟨hi, h⟩ := tc_gd_some h
  refine tc_cld9 C0 hP hi dXM_setLowWord_10 ?_
  refine lv_ldc (v := (-65536)) hx hb hown (tc_use hN tw_438) dXM_setLowWord_11 ?_
  refine lv_iand hx hb dXM_setLowWord_13 ?_
  refine lv_iload_n hx hb dXM_setLowWord_14 rfl (lv_at hl 2 rfl) ?_
  refine lv_ldc (v := 65535) hx hb hown (tc_use hN tw_368) dXM_setLowWord_15 ?_
  refine lv_iand hx hb dXM_setLowWord_17 ?_
  refine lv_ior hx hb dXM_setLowWord_18 ?_
  obtain ⟨hi, h⟩ := tc_gd_some h
  refine tc_cst9 C0 hJ hP hS hi dXM_setLowWord_19 (fun H locs hP hS => ?_)
  exact tc_crv C0 hP hS h dXM_setLowWord_20
theorem k_XM_setLowWord (hJ : ∀ σ, va_D A (tc_cW ad cA σ)) {σ : tc_S} {l1 l2 : Int32} {q : tc_S} (h : m_XM_setLowWord σ l1 l2 = some q) : Met l yXM_setLowWord [.code yXM_setLowWord cXM_setLowWord 3 none] (tc_R 0) (tc_Pc D cA (tc_cW ad cA σ) [.ref (ad 1), .int l1, .int l2]) (tc_Qv D (tc_cW ad cA q) A) 0 0 A :=
  tc_met (by decide) (Nat.le_of_ble_eq_true rfl) (fun _ _ _ _ _ _ _ C hP _ hl => w_XM_setLowWord_0 C hJ h hP va_S.rf hl)
def m_XM_load (σ : tc_S) (l1 l2 : Int32) : Option (tc_S) := ((m_XM_setLowWord σ l1 l2).bind (fun q3 => ((m_XM_setMoveFlags q3 l2.toInt16.toInt32).bind (fun q9 => (some q9)))))
set_option maxHeartbeats 4000000 in
set_option maxRecDepth 100000 in
theorem w_XM_load_0 (C : tc_C p s m args meth c RXM cXM_load 3 none D cA) (hJ : ∀ σ, va_D A (tc_cW ad cA σ)) {q : tc_S} {σ : tc_S} {l1 l2 : Int32} {H : Heap} {locs : List Loc} {ls : Array Slot} (h : m_XM_load σ l1 l2 = some q) (hP : va_P D vwCl (tc_cW ad cA σ) H) (hS : va_S A s.heap H locs) (hl : lv_has ls 3 [(0, .ref (ad 1)), (1, .int l1), (2, .int l2)]) : W p l e (tc_R 1) s m args below meth c H locs 0 0 (MQ below (tc_Qv D (tc_cW ad cA q) A) args s 0 0 A) (F0 m 0 ls []) := by
  have C0 := C
  obtain ⟨hx, hb, hml, hown, ⟨hK, hN⟩, hr, hlk⟩ := C
  unfold m_XM_load at h
  refine lv_aload_n hx hb dXM_load_0 rfl (lv_at hl 0 rfl) ?_
  refine lv_iload_n hx hb dXM_load_1 rfl (lv_at hl 1 rfl) ?_
  refine lv_iload_n hx hb dXM_load_2 rfl (lv_at hl 2 rfl) ?_
  obtain ⟨q3, e3, h⟩ := tc_bd_some h
  refine tc_cVv (As := [.int l1, .int l2]) (rest := []) C0 (k_XM_setLowWord hJ e3) tv_XM_97 (by decide) (by decide) hP hS hl 1 rfl rfl (Nat.le_of_ble_eq_true rfl) dXM_load_3 rfl (fun H locs hP hS => ?_)
  refine lv_aload_n hx hb dXM_load_6 rfl (lv_at hl 0 rfl) ?_
  refine lv_iload_n hx hb dXM_load_7 rfl (lv_at hl 2 rfl) ?_
  refine lv_i2s (v := l2.toInt16.toInt32) hx hb dXM_load_8 rfl ?_
  obtain ⟨q9, e9, h⟩ := tc_bd_some h
  refine tc_cVv (As := [.int l2.toInt16.toInt32]) (rest := []) C0 (k_XM_setMoveFlags hJ e9) tv_XM_86 (by decide) (by decide) hP hS hl 1 rfl rfl (Nat.le_of_ble_eq_true rfl) dXM_load_9 rfl (fun H locs hP hS => ?_)
  exact tc_crv C0 hP hS h dXM_load_12
theorem k_XM_load (hJ : ∀ σ, va_D A (tc_cW ad cA σ)) {σ : tc_S} {l1 l2 : Int32} {q : tc_S} (h : m_XM_load σ l1 l2 = some q) : Met l yXM_load [.code yXM_load cXM_load 3 none] (tc_R 1) (tc_Pc D cA (tc_cW ad cA σ) [.ref (ad 1), .int l1, .int l2]) (tc_Qv D (tc_cW ad cA q) A) 0 0 A :=
  tc_met (by decide) (Nat.le_of_ble_eq_true rfl) (fun _ _ _ _ _ _ _ C hP _ hl => w_XM_load_0 C hJ h hP va_S.rf hl)
def m_XM_moveWord_146 (σ : tc_S) (k0 : Int32) : Option (Int32 × tc_S) := (some (k0, σ))
set_option maxHeartbeats 4000000 in
set_option maxRecDepth 100000 in
theorem w_XM_moveWord_146 (C : tc_C p s m args meth c RXM cXM_moveWord 5 (some .int) D cA) (hJ : ∀ σ, va_D A (tc_cW ad cA σ)) {q : Int32 × tc_S} {σ : tc_S} {k0 : Int32} {H : Heap} {locs : List Loc} {ls : Array Slot} (h : m_XM_moveWord_146 σ k0 = some q) (hP : va_P D vwCl (tc_cW ad cA σ) H) (hS : va_S A s.heap H locs) (hl : lv_has ls 5 []) : W p l e (tc_R 4) s m args below meth c H locs 0 0 (MQ below (tc_Qi D (tc_cW ad cA q.2) A q.1) args s 0 0 A) (F0 m 146 ls [.int k0]) := by
  have C0 := C
  obtain ⟨hx, hb, hml, hown, ⟨hK, hN⟩, hr, hlk⟩ := C
  unfold m_XM_moveWord_146 at h
  exact tc_cri C0 hP hS h dXM_moveWord_146
def m_XM_moveWord_113 (σ : tc_S) (l3 k0 : Int32) : Option (Int32 × tc_S) := ((m_XM_nextWord σ).bind (fun q120 => ((m_XU_write q120.2 q120.1 k0).bind (fun q125 => ((m_XM_setMoveFlags q125 k0.toInt16.toInt32).bind (fun q132 => (if l3 = 0 then (m_XM_moveWord_146 q132 12) else (m_XM_moveWord_146 q132 16))))))))
set_option maxHeartbeats 4000000 in
set_option maxRecDepth 100000 in
theorem w_XM_moveWord_113 (C : tc_C p s m args meth c RXM cXM_moveWord 5 (some .int) D cA) (hJ : ∀ σ, va_D A (tc_cW ad cA σ)) {q : Int32 × tc_S} {σ : tc_S} {l3 k0 : Int32} {H : Heap} {locs : List Loc} {ls : Array Slot} (h : m_XM_moveWord_113 σ l3 k0 = some q) (hP : va_P D vwCl (tc_cW ad cA σ) H) (hS : va_S A s.heap H locs) (hl : lv_has ls 5 [(0, .ref (ad 1)), (3, .int l3)]) : W p l e (tc_R 4) s m args below meth c H locs 0 0 (MQ below (tc_Qi D (tc_cW ad cA q.2) A q.1) args s 0 0 A) (F0 m 113 ls [.int k0]) := by
  have C0 := C
  obtain ⟨hx, hb, hml, hown, ⟨hK, hN⟩, hr, hlk⟩ := C
  unfold m_XM_moveWord_113 at h
  refine lv_istore (lv' := [(4, .int k0), (0, .ref (ad 1)), (3, .int l3)]) hx hb dXM_moveWord_113 hl (by decide) rfl (fun ls hl => ?_)
  refine lv_aload_n hx hb dXM_moveWord_115 rfl (lv_at hl 1 rfl) ?_
  refine tc_cr_XM_bus C0 hP (tc_use hN tw_230) dXM_moveWord_116 ?_
  refine lv_aload_n hx hb dXM_moveWord_119 rfl (lv_at hl 1 rfl) ?_
  obtain ⟨q120, e120, h⟩ := tc_bd_some h
  refine tc_cVi (As := []) (rest := [.ref (ad 6)]) C0 (k_XM_nextWord hJ e120) tv_XM_56 (by decide) (by decide) hP hS hl 1 rfl rfl (Nat.le_of_ble_eq_true rfl) dXM_moveWord_120 rfl (fun H locs hP hS => ?_)
  refine lv_iload hx hb dXM_moveWord_123 (lv_at hl 0 rfl) ?_
  obtain ⟨q125, e125, h⟩ := tc_bd_some h
  refine tc_cVv (As := [.int q120.1, .int k0]) (rest := []) C0 (k_XU_write hJ e125) tv_XM_82 (by decide) (by decide) hP hS hl 6 rfl rfl (Nat.le_of_ble_eq_true rfl) dXM_moveWord_125 rfl (fun H locs hP hS => ?_)
  refine lv_aload_n hx hb dXM_moveWord_128 rfl (lv_at hl 1 rfl) ?_
  refine lv_iload hx hb dXM_moveWord_129 (lv_at hl 0 rfl) ?_
  refine lv_i2s (v := k0.toInt16.toInt32) hx hb dXM_moveWord_131 rfl ?_
  obtain ⟨q132, e132, h⟩ := tc_bd_some h
  refine tc_cVv (As := [.int k0.toInt16.toInt32]) (rest := []) C0 (k_XM_setMoveFlags hJ e132) tv_XM_86 (by decide) (by decide) hP hS hl 1 rfl rfl (Nat.le_of_ble_eq_true rfl) dXM_moveWord_132 rfl (fun H locs hP hS => ?_)
  refine lv_iload_n hx hb dXM_moveWord_135 rfl (lv_at hl 2 rfl) ?_
  refine lv_if_eq (tgt := 144) hx hb dXM_moveWord_136 (by decide) (fun hc => ?_) (fun hc => ?_)
  · have h := tc_ip hc h
    refine lv_bipush (v := 12) hx hb dXM_moveWord_144 (by decide) ?_
    exact w_XM_moveWord_146 C0 hJ h hP hS (lv_sub hl [] rfl)
  · have h := tc_in hc h
    refine lv_bipush (v := 16) hx hb dXM_moveWord_139 (by decide) ?_
    refine lv_goto (tgt := 146) hx hb dXM_moveWord_141 (by decide) ?_
    exact w_XM_moveWord_146 C0 hJ h hP hS (lv_sub hl [] rfl)
def m_XM_moveWord_90 (σ : tc_S) (l1 l3 : Int32) : Option (Int32 × tc_S) := (if l3 = 0 then (tc_gd (l1 &&& 7) 8 (m_XM_moveWord_113 σ l3 ((tc_ga σ 0 (l1 &&& 7)) &&& 65535))) else ((m_XM_nextWord σ).bind (fun q95 => (m_XM_moveWord_113 q95.2 l3 q95.1))))
set_option maxHeartbeats 4000000 in
set_option maxRecDepth 100000 in
theorem w_XM_moveWord_90 (C : tc_C p s m args meth c RXM cXM_moveWord 5 (some .int) D cA) (hJ : ∀ σ, va_D A (tc_cW ad cA σ)) {q : Int32 × tc_S} {σ : tc_S} {l1 l3 : Int32} {H : Heap} {locs : List Loc} {ls : Array Slot} (h : m_XM_moveWord_90 σ l1 l3 = some q) (hP : va_P D vwCl (tc_cW ad cA σ) H) (hS : va_S A s.heap H locs) (hl : lv_has ls 5 [(0, .ref (ad 1)), (1, .int l1), (3, .int l3)]) : W p l e (tc_R 4) s m args below meth c H locs 0 0 (MQ below (tc_Qi D (tc_cW ad cA q.2) A q.1) args s 0 0 A) (F0 m 90 ls []) := by
  have C0 := C
  obtain ⟨hx, hb, hml, hown, ⟨hK, hN⟩, hr, hlk⟩ := C
  unfold m_XM_moveWord_90 at h
  refine lv_iload_n hx hb dXM_moveWord_90 rfl (lv_at hl 2 rfl) ?_
  refine lv_if_eq (tgt := 101) hx hb dXM_moveWord_91 (by decide) (fun hc => ?_) (fun hc => ?_)
  · have h := tc_ip hc h
    refine lv_aload_n hx hb dXM_moveWord_101 rfl (lv_at hl 0 rfl) ?_
    refine tc_cr_XM_d C0 hP (tc_use hN tw_231) dXM_moveWord_102 ?_
    refine lv_iload_n hx hb dXM_moveWord_105 rfl (lv_at hl 1 rfl) ?_
    refine lv_bipush (v := 7) hx hb dXM_moveWord_106 (by decide) ?_
    refine lv_iand hx hb dXM_moveWord_108 ?_
    obtain ⟨hi, h⟩ := tc_gd_some h
    refine tc_cld9 C0 hP hi dXM_moveWord_109 ?_
    refine lv_ldc (v := 65535) hx hb hown (tc_use hN tw_368) dXM_moveWord_110 ?_
    refine lv_iand hx hb dXM_moveWord_112 ?_
    exact w_XM_moveWord_113 C0 hJ h hP hS (lv_sub hl [0, 2] rfl)
  · have h := tc_in hc h
    refine lv_aload_n hx hb dXM_moveWord_94 rfl (lv_at hl 0 rfl) ?_
    obtain ⟨q95, e95, h⟩ := tc_bd_some h
    refine tc_cVi (As := []) (rest := []) C0 (k_XM_nextWord hJ e95) tv_XM_56 (by decide) (by decide) hP hS hl 1 rfl rfl (Nat.le_of_ble_eq_true rfl) dXM_moveWord_95 rfl (fun H locs hP hS => ?_)
    refine lv_goto (tgt := 113) hx hb dXM_moveWord_98 (by decide) ?_
    exact w_XM_moveWord_113 C0 hJ h hP hS (lv_sub hl [0, 2] rfl)
def m_XM_moveWord_73 (σ : tc_S) (l1 k0 : Int32) : Option (Int32 × tc_S) := (if k0 = 0 then (if (l1 &&& 65528) = 12736 then (m_XM_moveWord_90 σ l1 k0) else (some (0, σ))) else (m_XM_moveWord_90 σ l1 k0))
set_option maxHeartbeats 4000000 in
set_option maxRecDepth 100000 in
theorem w_XM_moveWord_73 (C : tc_C p s m args meth c RXM cXM_moveWord 5 (some .int) D cA) (hJ : ∀ σ, va_D A (tc_cW ad cA σ)) {q : Int32 × tc_S} {σ : tc_S} {l1 k0 : Int32} {H : Heap} {locs : List Loc} {ls : Array Slot} (h : m_XM_moveWord_73 σ l1 k0 = some q) (hP : va_P D vwCl (tc_cW ad cA σ) H) (hS : va_S A s.heap H locs) (hl : lv_has ls 5 [(0, .ref (ad 1)), (1, .int l1)]) : W p l e (tc_R 4) s m args below meth c H locs 0 0 (MQ below (tc_Qi D (tc_cW ad cA q.2) A q.1) args s 0 0 A) (F0 m 73 ls [.int k0]) := by
  have C0 := C
  obtain ⟨hx, hb, hml, hown, ⟨hK, hN⟩, hr, hlk⟩ := C
  unfold m_XM_moveWord_73 at h
  refine lv_istore_n (lv' := [(3, .int k0), (0, .ref (ad 1)), (1, .int l1)]) hx hb dXM_moveWord_73 rfl hl (by decide) rfl (fun ls hl => ?_)
  refine lv_iload_n hx hb dXM_moveWord_74 rfl (lv_at hl 0 rfl) ?_
  refine lv_if_ne (tgt := 90) hx hb dXM_moveWord_75 (by decide) (fun hc => ?_) (fun hc => ?_)
  · have h := tc_in hc h
    exact w_XM_moveWord_90 C0 hJ h hP hS (lv_sub hl [1, 2, 0] rfl)
  · have h := tc_ip hc h
    refine lv_iload_n hx hb dXM_moveWord_78 rfl (lv_at hl 2 rfl) ?_
    refine lv_ldc (v := 65528) hx hb hown (tc_use hN tw_464) dXM_moveWord_79 ?_
    refine lv_iand hx hb dXM_moveWord_81 ?_
    refine lv_sipush (v := 12736) hx hb dXM_moveWord_82 (by decide) ?_
    refine lv_icmp_eq (tgt := 90) hx hb dXM_moveWord_85 (by decide) (fun hc => ?_) (fun hc => ?_)
    · have h := tc_ip hc h
      exact w_XM_moveWord_90 C0 hJ h hP hS (lv_sub hl [1, 2, 0] rfl)
    · have h := tc_in hc h
      refine lv_iconst (v := 0) hx hb dXM_moveWord_88 (by decide) ?_
      exact tc_cri C0 hP hS h dXM_moveWord_89
def m_XM_moveWord (σ : tc_S) (l1 : Int32) : Option (Int32 × tc_S) := (if (l1 &&& 504) = 0 then (tc_gd (l1 &&& 7) 8 ((m_XM_load σ ((l1 >>> ((9 : Int32) &&& 31)) &&& 7) (tc_ga σ 0 (l1 &&& 7))).bind (fun q27 => (some (4, q27))))) else (if (l1 &&& 511) = 56 then ((m_XM_nextWord σ).bind (fun q49 => ((m_XU_read q49.2 q49.1).bind (fun q52 => ((m_XM_load q52.2 ((l1 >>> ((9 : Int32) &&& 31)) &&& 7) q52.1).bind (fun q55 => (some (12, q55)))))))) else (if l1 = 12796 then (m_XM_moveWord_73 σ l1 1) else (m_XM_moveWord_73 σ l1 0))))
set_option maxHeartbeats 4000000 in
set_option maxRecDepth 100000 in
theorem w_XM_moveWord_0 (C : tc_C p s m args meth c RXM cXM_moveWord 5 (some .int) D cA) (hJ : ∀ σ, va_D A (tc_cW ad cA σ)) {q : Int32 × tc_S} {σ : tc_S} {l1 : Int32} {H : Heap} {locs : List Loc} {ls : Array Slot} (h : m_XM_moveWord σ l1 = some q) (hP : va_P D vwCl (tc_cW ad cA σ) H) (hS : va_S A s.heap H locs) (hl : lv_has ls 5 [(0, .ref (ad 1)), (1, .int l1)]) : W p l e (tc_R 4) s m args below meth c H locs 0 0 (MQ below (tc_Qi D (tc_cW ad cA q.2) A q.1) args s 0 0 A) (F0 m 0 ls []) := by
  have C0 := C
  obtain ⟨hx, hb, hml, hown, ⟨hK, hN⟩, hr, hlk⟩ := C
  unfold m_XM_moveWord at h
  refine lv_iload_n hx hb dXM_moveWord_0 rfl (lv_at hl 1 rfl) ?_
  refine lv_bipush (v := 9) hx hb dXM_moveWord_1 (by decide) ?_
  refine lv_ishr hx hb dXM_moveWord_3 ?_
  refine lv_bipush (v := 7) hx hb dXM_moveWord_4 (by decide) ?_
  refine lv_iand hx hb dXM_moveWord_6 ?_
  refine lv_istore_n (lv' := [(2, .int ((l1 >>> ((9 : Int32) &&& 31)) &&& 7)), (0, .ref (ad 1)), (1, .int l1)]) hx hb dXM_moveWord_7 rfl hl (by decide) rfl (fun ls hl => ?_)
  refine lv_iload_n hx hb dXM_moveWord_8 rfl (lv_at hl 2 rfl) ?_
  refine lv_sipush (v := 504) hx hb dXM_moveWord_9 (by decide) ?_
  refine lv_iand hx hb dXM_moveWord_12 ?_
  refine lv_if_ne (tgt := 32) hx hb dXM_moveWord_13 (by decide) (fun hc => ?_) (fun hc => ?_)
  · have h := tc_in hc h
    refine lv_iload_n hx hb dXM_moveWord_32 rfl (lv_at hl 2 rfl) ?_
    refine lv_sipush (v := 511) hx hb dXM_moveWord_33 (by decide) ?_
    refine lv_iand hx hb dXM_moveWord_36 ?_
    refine lv_bipush (v := 56) hx hb dXM_moveWord_37 (by decide) ?_
    refine lv_icmp_ne (tgt := 61) hx hb dXM_moveWord_39 (by decide) (fun hc => ?_) (fun hc => ?_)
    · have h := tc_in hc h
      refine lv_iload_n hx hb dXM_moveWord_61 rfl (lv_at hl 2 rfl) ?_
      refine lv_sipush (v := 12796) hx hb dXM_moveWord_62 (by decide) ?_
      refine lv_icmp_ne (tgt := 72) hx hb dXM_moveWord_65 (by decide) (fun hc => ?_) (fun hc => ?_)
      · have h := tc_in hc h
        refine lv_iconst (v := 0) hx hb dXM_moveWord_72 (by decide) ?_
        exact w_XM_moveWord_73 C0 hJ h hP hS (lv_sub hl [1, 2] rfl)
      · have h := tc_ip hc h
        refine lv_iconst (v := 1) hx hb dXM_moveWord_68 (by decide) ?_
        refine lv_goto (tgt := 73) hx hb dXM_moveWord_69 (by decide) ?_
        exact w_XM_moveWord_73 C0 hJ h hP hS (lv_sub hl [1, 2] rfl)
    · have h := tc_ip hc h
      refine lv_aload_n hx hb dXM_moveWord_42 rfl (lv_at hl 1 rfl) ?_
      refine lv_iload_n hx hb dXM_moveWord_43 rfl (lv_at hl 0 rfl) ?_
      refine lv_aload_n hx hb dXM_moveWord_44 rfl (lv_at hl 1 rfl) ?_
      refine tc_cr_XM_bus C0 hP (tc_use hN tw_230) dXM_moveWord_45 ?_
      refine lv_aload_n hx hb dXM_moveWord_48 rfl (lv_at hl 1 rfl) ?_
      obtain ⟨q49, e49, h⟩ := tc_bd_some h
      refine tc_cVi (As := []) (rest := [.ref (ad 6), .int ((l1 >>> ((9 : Int32) &&& 31)) &&& 7), .ref (ad 1)]) C0 (k_XM_nextWord hJ e49) tv_XM_56 (by decide) (by decide) hP hS hl 1 rfl rfl (Nat.le_of_ble_eq_true rfl) dXM_moveWord_49 rfl (fun H locs hP hS => ?_)
      obtain ⟨q52, e52, h⟩ := tc_bd_some h
      refine tc_cVi (As := [.int q49.1]) (rest := [.int ((l1 >>> ((9 : Int32) &&& 31)) &&& 7), .ref (ad 1)]) C0 (k_XU_read hJ e52) tv_XM_93 (by decide) (by decide) hP hS hl 6 rfl rfl (Nat.le_of_ble_eq_true rfl) dXM_moveWord_52 rfl (fun H locs hP hS => ?_)
      obtain ⟨q55, e55, h⟩ := tc_bd_some h
      refine tc_cVv (As := [.int ((l1 >>> ((9 : Int32) &&& 31)) &&& 7), .int q52.1]) (rest := []) C0 (k_XM_load hJ e55) tv_XM_90 (by decide) (by decide) hP hS hl 1 rfl rfl (Nat.le_of_ble_eq_true rfl) dXM_moveWord_55 rfl (fun H locs hP hS => ?_)
      refine lv_bipush (v := 12) hx hb dXM_moveWord_58 (by decide) ?_
      exact tc_cri C0 hP hS h dXM_moveWord_60
  · have h := tc_ip hc h
    refine lv_aload_n hx hb dXM_moveWord_16 rfl (lv_at hl 1 rfl) ?_
    refine lv_iload_n hx hb dXM_moveWord_17 rfl (lv_at hl 0 rfl) ?_
    refine lv_aload_n hx hb dXM_moveWord_18 rfl (lv_at hl 1 rfl) ?_
    refine tc_cr_XM_d C0 hP (tc_use hN tw_231) dXM_moveWord_19 ?_
    refine lv_iload_n hx hb dXM_moveWord_22 rfl (lv_at hl 2 rfl) ?_
    refine lv_bipush (v := 7) hx hb dXM_moveWord_23 (by decide) ?_
    refine lv_iand hx hb dXM_moveWord_25 ?_
    obtain ⟨hi, h⟩ := tc_gd_some h
    refine tc_cld9 C0 hP hi dXM_moveWord_26 ?_
    obtain ⟨q27, e27, h⟩ := tc_bd_some h
    refine tc_cVv (As := [.int ((l1 >>> ((9 : Int32) &&& 31)) &&& 7), .int (tc_ga σ 0 (l1 &&& 7))]) (rest := []) C0 (k_XM_load hJ e27) tv_XM_90 (by decide) (by decide) hP hS hl 1 rfl rfl (Nat.le_of_ble_eq_true rfl) dXM_moveWord_27 rfl (fun H locs hP hS => ?_)
    refine lv_iconst (v := 4) hx hb dXM_moveWord_30 (by decide) ?_
    exact tc_cri C0 hP hS h dXM_moveWord_31
theorem k_XM_moveWord (hJ : ∀ σ, va_D A (tc_cW ad cA σ)) {σ : tc_S} {l1 : Int32} {q : Int32 × tc_S} (h : m_XM_moveWord σ l1 = some q) : Met l yXM_moveWord [.code yXM_moveWord cXM_moveWord 5 (some .int)] (tc_R 4) (tc_Pc D cA (tc_cW ad cA σ) [.ref (ad 1), .int l1]) (tc_Qi D (tc_cW ad cA q.2) A q.1) 0 0 A :=
  tc_met (by decide) (Nat.le_of_ble_eq_true rfl) (fun _ _ _ _ _ _ _ C hP _ hl => w_XM_moveWord_0 C hJ h hP va_S.rf hl)
def m_XM_maskAndFlags_60 (σ : tc_S) (k0 k1 : Int32) : Option (Int32 × tc_S) := (some ((k1 + k0), σ))
set_option maxHeartbeats 4000000 in
set_option maxRecDepth 100000 in
theorem w_XM_maskAndFlags_60 (C : tc_C p s m args meth c RXM cXM_maskAndFlags 1 (some .int) D cA) (hJ : ∀ σ, va_D A (tc_cW ad cA σ)) {q : Int32 × tc_S} {σ : tc_S} {k0 k1 : Int32} {H : Heap} {locs : List Loc} {ls : Array Slot} (h : m_XM_maskAndFlags_60 σ k0 k1 = some q) (hP : va_P D vwCl (tc_cW ad cA σ) H) (hS : va_S A s.heap H locs) (hl : lv_has ls 1 []) : W p l e (tc_R 0) s m args below meth c H locs 0 0 (MQ below (tc_Qi D (tc_cW ad cA q.2) A q.1) args s 0 0 A) (F0 m 60 ls [.int k0, .int k1]) := by
  have C0 := C
  obtain ⟨hx, hb, hml, hown, ⟨hK, hN⟩, hr, hlk⟩ := C
  unfold m_XM_maskAndFlags_60 at h
  refine lv_iadd hx hb dXM_maskAndFlags_60 ?_
  exact tc_cri C0 hP hS h dXM_maskAndFlags_61
def m_XM_maskAndFlags_47 (σ : tc_S) (k0 k1 : Int32) : Option (Int32 × tc_S) := (if (tc_gf σ 6) = 0 then (m_XM_maskAndFlags_60 σ 0 (k1 + k0)) else (m_XM_maskAndFlags_60 σ 1 (k1 + k0)))
set_option maxHeartbeats 4000000 in
set_option maxRecDepth 100000 in
theorem w_XM_maskAndFlags_47 (C : tc_C p s m args meth c RXM cXM_maskAndFlags 1 (some .int) D cA) (hJ : ∀ σ, va_D A (tc_cW ad cA σ)) {q : Int32 × tc_S} {σ : tc_S} {k0 k1 : Int32} {H : Heap} {locs : List Loc} {ls : Array Slot} (h : m_XM_maskAndFlags_47 σ k0 k1 = some q) (hP : va_P D vwCl (tc_cW ad cA σ) H) (hS : va_S A s.heap H locs) (hl : lv_has ls 1 [(0, .ref (ad 1))]) : W p l e (tc_R 0) s m args below meth c H locs 0 0 (MQ below (tc_Qi D (tc_cW ad cA q.2) A q.1) args s 0 0 A) (F0 m 47 ls [.int k0, .int k1]) := by
  have C0 := C
  obtain ⟨hx, hb, hml, hown, ⟨hK, hN⟩, hr, hlk⟩ := C
  unfold m_XM_maskAndFlags_47 at h
  refine lv_iadd hx hb dXM_maskAndFlags_47 ?_
  refine lv_aload_n hx hb dXM_maskAndFlags_48 rfl (lv_at hl 0 rfl) ?_
  refine tc_cg6 C0 hP (tc_use hN tw_242) dXM_maskAndFlags_49 ?_
  refine lv_if_eq (tgt := 59) hx hb dXM_maskAndFlags_52 (by decide) (fun hc => ?_) (fun hc => ?_)
  · have h := tc_ip hc h
    refine lv_iconst (v := 0) hx hb dXM_maskAndFlags_59 (by decide) ?_
    exact w_XM_maskAndFlags_60 C0 hJ h hP hS (lv_sub hl [] rfl)
  · have h := tc_in hc h
    refine lv_iconst (v := 1) hx hb dXM_maskAndFlags_55 (by decide) ?_
    refine lv_goto (tgt := 60) hx hb dXM_maskAndFlags_56 (by decide) ?_
    exact w_XM_maskAndFlags_60 C0 hJ h hP hS (lv_sub hl [] rfl)
def m_XM_maskAndFlags_34 (σ : tc_S) (k0 k1 : Int32) : Option (Int32 × tc_S) := (if (tc_gf σ 5) = 0 then (m_XM_maskAndFlags_47 σ 0 (k1 + k0)) else (m_XM_maskAndFlags_47 σ 2 (k1 + k0)))
set_option maxHeartbeats 4000000 in
set_option maxRecDepth 100000 in
theorem w_XM_maskAndFlags_34 (C : tc_C p s m args meth c RXM cXM_maskAndFlags 1 (some .int) D cA) (hJ : ∀ σ, va_D A (tc_cW ad cA σ)) {q : Int32 × tc_S} {σ : tc_S} {k0 k1 : Int32} {H : Heap} {locs : List Loc} {ls : Array Slot} (h : m_XM_maskAndFlags_34 σ k0 k1 = some q) (hP : va_P D vwCl (tc_cW ad cA σ) H) (hS : va_S A s.heap H locs) (hl : lv_has ls 1 [(0, .ref (ad 1))]) : W p l e (tc_R 0) s m args below meth c H locs 0 0 (MQ below (tc_Qi D (tc_cW ad cA q.2) A q.1) args s 0 0 A) (F0 m 34 ls [.int k0, .int k1]) := by
  have C0 := C
  obtain ⟨hx, hb, hml, hown, ⟨hK, hN⟩, hr, hlk⟩ := C
  unfold m_XM_maskAndFlags_34 at h
  refine lv_iadd hx hb dXM_maskAndFlags_34 ?_
  refine lv_aload_n hx hb dXM_maskAndFlags_35 rfl (lv_at hl 0 rfl) ?_
  refine tc_cg5 C0 hP (tc_use hN tw_241) dXM_maskAndFlags_36 ?_
  refine lv_if_eq (tgt := 46) hx hb dXM_maskAndFlags_39 (by decide) (fun hc => ?_) (fun hc => ?_)
  · have h := tc_ip hc h
    refine lv_iconst (v := 0) hx hb dXM_maskAndFlags_46 (by decide) ?_
    exact w_XM_maskAndFlags_47 C0 hJ h hP hS (lv_sub hl [0] rfl)
  · have h := tc_in hc h
    refine lv_iconst (v := 2) hx hb dXM_maskAndFlags_42 (by decide) ?_
    refine lv_goto (tgt := 47) hx hb dXM_maskAndFlags_43 (by decide) ?_
    exact w_XM_maskAndFlags_47 C0 hJ h hP hS (lv_sub hl [0] rfl)
def m_XM_maskAndFlags_21 (σ : tc_S) (k0 k1 : Int32) : Option (Int32 × tc_S) := (if (tc_gf σ 4) = 0 then (m_XM_maskAndFlags_34 σ 0 (k1 + k0)) else (m_XM_maskAndFlags_34 σ 4 (k1 + k0)))
set_option maxHeartbeats 4000000 in
set_option maxRecDepth 100000 in
theorem w_XM_maskAndFlags_21 (C : tc_C p s m args meth c RXM cXM_maskAndFlags 1 (some .int) D cA) (hJ : ∀ σ, va_D A (tc_cW ad cA σ)) {q : Int32 × tc_S} {σ : tc_S} {k0 k1 : Int32} {H : Heap} {locs : List Loc} {ls : Array Slot} (h : m_XM_maskAndFlags_21 σ k0 k1 = some q) (hP : va_P D vwCl (tc_cW ad cA σ) H) (hS : va_S A s.heap H locs) (hl : lv_has ls 1 [(0, .ref (ad 1))]) : W p l e (tc_R 0) s m args below meth c H locs 0 0 (MQ below (tc_Qi D (tc_cW ad cA q.2) A q.1) args s 0 0 A) (F0 m 21 ls [.int k0, .int k1]) := by
  have C0 := C
  obtain ⟨hx, hb, hml, hown, ⟨hK, hN⟩, hr, hlk⟩ := C
  unfold m_XM_maskAndFlags_21 at h
  refine lv_iadd hx hb dXM_maskAndFlags_21 ?_
  refine lv_aload_n hx hb dXM_maskAndFlags_22 rfl (lv_at hl 0 rfl) ?_
  refine tc_cg4 C0 hP (tc_use hN tw_240) dXM_maskAndFlags_23 ?_
  refine lv_if_eq (tgt := 33) hx hb dXM_maskAndFlags_26 (by decide) (fun hc => ?_) (fun hc => ?_)
  · have h := tc_ip hc h
    refine lv_iconst (v := 0) hx hb dXM_maskAndFlags_33 (by decide) ?_
    exact w_XM_maskAndFlags_34 C0 hJ h hP hS (lv_sub hl [0] rfl)
  · have h := tc_in hc h
    refine lv_iconst (v := 4) hx hb dXM_maskAndFlags_29 (by decide) ?_
    refine lv_goto (tgt := 34) hx hb dXM_maskAndFlags_30 (by decide) ?_
    exact w_XM_maskAndFlags_34 C0 hJ h hP hS (lv_sub hl [0] rfl)
def m_XM_maskAndFlags (σ : tc_S) : Option (Int32 × tc_S) := (if (tc_gf σ 3) = 0 then (m_XM_maskAndFlags_21 σ 0 ((tc_gf σ 2) * 256)) else (m_XM_maskAndFlags_21 σ 8 ((tc_gf σ 2) * 256)))
set_option maxHeartbeats 4000000 in
set_option maxRecDepth 100000 in
theorem w_XM_maskAndFlags_0 (C : tc_C p s m args meth c RXM cXM_maskAndFlags 1 (some .int) D cA) (hJ : ∀ σ, va_D A (tc_cW ad cA σ)) {q : Int32 × tc_S} {σ : tc_S} {H : Heap} {locs : List Loc} {ls : Array Slot} (h : m_XM_maskAndFlags σ = some q) (hP : va_P D vwCl (tc_cW ad cA σ) H) (hS : va_S A s.heap H locs) (hl : lv_has ls 1 [(0, .ref (ad 1))]) : W p l e (tc_R 0) s m args below meth c H locs 0 0 (MQ below (tc_Qi D (tc_cW ad cA q.2) A q.1) args s 0 0 A) (F0 m 0 ls []) := by
  have C0 := C
  obtain ⟨hx, hb, hml, hown, ⟨hK, hN⟩, hr, hlk⟩ := C
  unfold m_XM_maskAndFlags at h
  refine lv_aload_n hx hb dXM_maskAndFlags_0 rfl (lv_at hl 0 rfl) ?_
  refine tc_cg2 C0 hP (tc_use hN tw_237) dXM_maskAndFlags_1 ?_
  refine lv_sipush (v := 256) hx hb dXM_maskAndFlags_4 (by decide) ?_
  refine lv_imul hx hb dXM_maskAndFlags_7 ?_
  refine lv_aload_n hx hb dXM_maskAndFlags_8 rfl (lv_at hl 0 rfl) ?_
  refine tc_cg3 C0 hP (tc_use hN tw_239) dXM_maskAndFlags_9 ?_
  refine lv_if_eq (tgt := 20) hx hb dXM_maskAndFlags_12 (by decide) (fun hc => ?_) (fun hc => ?_)
  · have h := tc_ip hc h
    refine lv_iconst (v := 0) hx hb dXM_maskAndFlags_20 (by decide) ?_
    exact w_XM_maskAndFlags_21 C0 hJ h hP hS (lv_sub hl [0] rfl)
  · have h := tc_in hc h
    refine lv_bipush (v := 8) hx hb dXM_maskAndFlags_15 (by decide) ?_
    refine lv_goto (tgt := 21) hx hb dXM_maskAndFlags_17 (by decide) ?_
    exact w_XM_maskAndFlags_21 C0 hJ h hP hS (lv_sub hl [0] rfl)
theorem k_XM_maskAndFlags (hJ : ∀ σ, va_D A (tc_cW ad cA σ)) {σ : tc_S} {q : Int32 × tc_S} (h : m_XM_maskAndFlags σ = some q) : Met l yXM_maskAndFlags [.code yXM_maskAndFlags cXM_maskAndFlags 1 (some .int)] (tc_R 0) (tc_Pc D cA (tc_cW ad cA σ) [.ref (ad 1)]) (tc_Qi D (tc_cW ad cA q.2) A q.1) 0 0 A :=
  tc_met (by decide) (Nat.le_of_ble_eq_true rfl) (fun _ _ _ _ _ _ _ C hP _ hl => w_XM_maskAndFlags_0 C hJ h hP va_S.rf hl)
def m_XM_raise (σ : tc_S) (l1 : Int32) : Option (tc_S) := ((m_XM_maskAndFlags σ).bind (fun q15 => ((m_XU_write q15.2 (((tc_gf σ 0) - 6) &&& 65535) q15.1).bind (fun q18 => ((m_XU_write q18 (((tc_gf q18 0) - 4) &&& 65535) 0).bind (fun q35 => ((m_XU_write q35 (((tc_gf q35 0) - 2) &&& 65535) (tc_gf q35 1)).bind (fun q55 => ((m_XU_readQuietly (tc_sf q55 0 (((tc_gf q55 0) - 6) &&& 65535)) ((4 * l1) + 2)).bind (fun q82 => (some (tc_sf q82.2 1 q82.1))))))))))))
set_option maxHeartbeats 4000000 in
set_option maxRecDepth 100000 in
theorem w_XM_raise_0 (C : tc_C p s m args meth c RXM cXM_raise 2 none D cA) (hJ : ∀ σ, va_D A (tc_cW ad cA σ)) {q : tc_S} {σ : tc_S} {l1 : Int32} {H : Heap} {locs : List Loc} {ls : Array Slot} (h : m_XM_raise σ l1 = some q) (hP : va_P D vwCl (tc_cW ad cA σ) H) (hS : va_S A s.heap H locs) (hl : lv_has ls 2 [(0, .ref (ad 1)), (1, .int l1)]) : W p l e (tc_R 4) s m args below meth c H locs 0 0 (MQ below (tc_Qv D (tc_cW ad cA q) A) args s 0 0 A) (F0 m 0 ls []) := by
  have C0 := C
  obtain ⟨hx, hb, hml, hown, ⟨hK, hN⟩, hr, hlk⟩ := C
  unfold m_XM_raise at h
  refine lv_aload_n hx hb dXM_raise_0 rfl (lv_at hl 0 rfl) ?_
  refine tc_cr_XM_bus C0 hP (tc_use hN tw_230) dXM_raise_1 ?_
  refine lv_aload_n hx hb dXM_raise_4 rfl (lv_at hl 0 rfl) ?_
  refine tc_cg0 C0 hP (tc_use hN tw_233) dXM_raise_5 ?_
  refine lv_bipush (v := 6) hx hb dXM_raise_8 (by decide) ?_
  refine lv_isub hx hb dXM_raise_10 ?_
  refine lv_ldc (v := 65535) hx hb hown (tc_use hN tw_368) dXM_raise_11 ?_
  refine lv_iand hx hb dXM_raise_13 ?_
  refine lv_aload_n hx hb dXM_raise_14 rfl (lv_at hl 0 rfl) ?_
  obtain ⟨q15, e15, h⟩ := tc_bd_some h
  refine tc_cVi (As := []) (rest := [.int (((tc_gf σ 0) - 6) &&& 65535), .ref (ad 6)]) C0 (k_XM_maskAndFlags hJ e15) tv_XM_79 (by decide) (by decide) hP hS hl 1 rfl rfl (Nat.le_of_ble_eq_true rfl) dXM_raise_15 rfl (fun H locs hP hS => ?_)
  obtain ⟨q18, e18, h⟩ := tc_bd_some h
  refine tc_cVv (As := [.int (((tc_gf σ 0) - 6) &&& 65535), .int q15.1]) (rest := []) C0 (k_XU_write hJ e18) tv_XM_82 (by decide) (by decide) hP hS hl 6 rfl rfl (Nat.le_of_ble_eq_true rfl) dXM_raise_18 rfl (fun H locs hP hS => ?_)
  refine lv_aload_n hx hb dXM_raise_21 rfl (lv_at hl 0 rfl) ?_
  refine tc_cr_XM_bus C0 hP (tc_use hN tw_230) dXM_raise_22 ?_
  refine lv_aload_n hx hb dXM_raise_25 rfl (lv_at hl 0 rfl) ?_
  refine tc_cg0 C0 hP (tc_use hN tw_233) dXM_raise_26 ?_
  refine lv_iconst (v := 4) hx hb dXM_raise_29 (by decide) ?_
  refine lv_isub hx hb dXM_raise_30 ?_
  refine lv_ldc (v := 65535) hx hb hown (tc_use hN tw_368) dXM_raise_31 ?_
  refine lv_iand hx hb dXM_raise_33 ?_
  refine lv_iconst (v := 0) hx hb dXM_raise_34 (by decide) ?_
  obtain ⟨q35, e35, h⟩ := tc_bd_some h
  refine tc_cVv (As := [.int (((tc_gf q18 0) - 4) &&& 65535), .int 0]) (rest := []) C0 (k_XU_write hJ e35) tv_XM_82 (by decide) (by decide) hP hS hl 6 rfl rfl (Nat.le_of_ble_eq_true rfl) dXM_raise_35 rfl (fun H locs hP hS => ?_)
  refine lv_aload_n hx hb dXM_raise_38 rfl (lv_at hl 0 rfl) ?_
  refine tc_cr_XM_bus C0 hP (tc_use hN tw_230) dXM_raise_39 ?_
  refine lv_aload_n hx hb dXM_raise_42 rfl (lv_at hl 0 rfl) ?_
  refine tc_cg0 C0 hP (tc_use hN tw_233) dXM_raise_43 ?_
  refine lv_iconst (v := 2) hx hb dXM_raise_46 (by decide) ?_
  refine lv_isub hx hb dXM_raise_47 ?_
  refine lv_ldc (v := 65535) hx hb hown (tc_use hN tw_368) dXM_raise_48 ?_
  refine lv_iand hx hb dXM_raise_50 ?_
  refine lv_aload_n hx hb dXM_raise_51 rfl (lv_at hl 0 rfl) ?_
  refine tc_cg1 C0 hP (tc_use hN tw_235) dXM_raise_52 ?_
  obtain ⟨q55, e55, h⟩ := tc_bd_some h
  refine tc_cVv (As := [.int (((tc_gf q35 0) - 2) &&& 65535), .int (tc_gf q35 1)]) (rest := []) C0 (k_XU_write hJ e55) tv_XM_82 (by decide) (by decide) hP hS hl 6 rfl rfl (Nat.le_of_ble_eq_true rfl) dXM_raise_55 rfl (fun H locs hP hS => ?_)
  refine lv_aload_n hx hb dXM_raise_58 rfl (lv_at hl 0 rfl) ?_
  refine lv_aload_n hx hb dXM_raise_59 rfl (lv_at hl 0 rfl) ?_
  refine tc_cg0 C0 hP (tc_use hN tw_233) dXM_raise_60 ?_
  refine lv_bipush (v := 6) hx hb dXM_raise_63 (by decide) ?_
  refine lv_isub hx hb dXM_raise_65 ?_
  refine lv_ldc (v := 65535) hx hb hown (tc_use hN tw_368) dXM_raise_66 ?_
  refine lv_iand hx hb dXM_raise_68 ?_
  refine tc_cp0 C0 hJ hP hS (tc_use hN tw_233) dXM_raise_69 (fun H locs hP hS => ?_)
  refine lv_aload_n hx hb dXM_raise_72 rfl (lv_at hl 0 rfl) ?_
  refine lv_aload_n hx hb dXM_raise_73 rfl (lv_at hl 0 rfl) ?_
  refine tc_cr_XM_bus C0 hP (tc_use hN tw_230) dXM_raise_74 ?_
  refine lv_iconst (v := 4) hx hb dXM_raise_77 (by decide) ?_
  refine lv_iload_n hx hb dXM_raise_78 rfl (lv_at hl 1 rfl) ?_
  refine lv_imul hx hb dXM_raise_79 ?_
  refine lv_iconst (v := 2) hx hb dXM_raise_80 (by decide) ?_
  refine lv_iadd hx hb dXM_raise_81 ?_
  obtain ⟨q82, e82, h⟩ := tc_bd_some h
  refine tc_cVi (As := [.int ((4 * l1) + 2)]) (rest := [.ref (ad 1)]) C0 (k_XU_readQuietly hJ e82) tv_XM_21 (by decide) (by decide) hP hS hl 6 rfl rfl (Nat.le_of_ble_eq_true rfl) dXM_raise_82 rfl (fun H locs hP hS => ?_)
  refine tc_cp1 C0 hJ hP hS (tc_use hN tw_235) dXM_raise_85 (fun H locs hP hS => ?_)
  exact tc_crv C0 hP hS h dXM_raise_88
theorem k_XM_raise (hJ : ∀ σ, va_D A (tc_cW ad cA σ)) {σ : tc_S} {l1 : Int32} {q : tc_S} (h : m_XM_raise σ l1 = some q) : Met l yXM_raise [.code yXM_raise cXM_raise 2 none] (tc_R 4) (tc_Pc D cA (tc_cW ad cA σ) [.ref (ad 1), .int l1]) (tc_Qv D (tc_cW ad cA q) A) 0 0 A :=
  tc_met (by decide) (Nat.le_of_ble_eq_true rfl) (fun _ _ _ _ _ _ _ C hP _ hl => w_XM_raise_0 C hJ h hP va_S.rf hl)
end WALK_C_02
