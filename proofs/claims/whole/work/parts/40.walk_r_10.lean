section WALK_R_10
variable {p : Program} {l : Launch} {e : Env} {s : State} {m : MethodId} {args : Array Value} {below : List Frame} {meth : Method} {c : Code} {D : va_G} {cA : ClassId} {A : Nat → Prop} {ad : Nat → Nat}
def m_XR_vramWord (σ : tc_S) (l1 : Int32) : Option (Int32 × tc_S) := (tc_gd (2 * l1) 1024 (tc_gd ((2 * l1) + 1) 1024 (some (((256 * (tc_ga σ 2 (2 * l1))) + (tc_ga σ 2 ((2 * l1) + 1))), σ))))
set_option maxHeartbeats 4000000 in
set_option maxRecDepth 100000 in
theorem w_XR_vramWord_0 (C : tc_C p s m args meth c RXR cXR_vramWord 2 (some .int) D cA) (hJ : ∀ σ, va_D A (tc_rW ad cA σ)) {q : Int32 × tc_S} {σ : tc_S} {l1 : Int32} {H : Heap} {locs : List Loc} {ls : Array Slot} (h : m_XR_vramWord σ l1 = some q) (hP : va_P D vwCl (tc_rW ad cA σ) H) (hS : va_S A s.heap H locs) (hl : lv_has ls 2 [(0, .ref (ad 0)), (1, .int l1)]) : W p l e (tc_R 0) s m args below meth c H locs 0 0 (MQ below (tc_Qi D (tc_rW ad cA q.2) A q.1) args s 0 0 A) (F0 m 0 ls []) := by
  have C0 := C
  obtain ⟨hx, hb, hml, hown, ⟨hK, hN⟩, hr, hlk⟩ := C
  unfold m_XR_vramWord at h
  refine lv_sipush (v := 256) hx hb dXR_vramWord_0 (by decide) ?_
  refine lv_aload_n hx hb dXR_vramWord_3 rfl (lv_at hl 0 rfl) ?_
  refine tc_rr_XR_vram C0 hP (tc_use hN tw_650) dXR_vramWord_4 ?_
  refine lv_iconst (v := 2) hx hb dXR_vramWord_7 (by decide) ?_
  refine lv_iload_n hx hb dXR_vramWord_8 rfl (lv_at hl 1 rfl) ?_
  refine lv_imul hx hb dXR_vramWord_9 ?_
  obtain ⟨hi, h⟩ := tc_gd_some h
  refine tc_rld5 C0 hP hi dXR_vramWord_10 ?_
  refine lv_imul hx hb dXR_vramWord_11 ?_
  refine lv_aload_n hx hb dXR_vramWord_12 rfl (lv_at hl 0 rfl) ?_
  refine tc_rr_XR_vram C0 hP (tc_use hN tw_650) dXR_vramWord_13 ?_
  refine lv_iconst (v := 2) hx hb dXR_vramWord_16 (by decide) ?_
  refine lv_iload_n hx hb dXR_vramWord_17 rfl (lv_at hl 1 rfl) ?_
  refine lv_imul hx hb dXR_vramWord_18 ?_
  refine lv_iconst (v := 1) hx hb dXR_vramWord_19 (by decide) ?_
  refine lv_iadd hx hb dXR_vramWord_20 ?_
  obtain ⟨hi, h⟩ := tc_gd_some h
  refine tc_rld5 C0 hP hi dXR_vramWord_21 ?_
  refine lv_iadd hx hb dXR_vramWord_22 ?_
  exact tc_rri C0 hP hS h dXR_vramWord_23
theorem k_XR_vramWord (hJ : ∀ σ, va_D A (tc_rW ad cA σ)) {σ : tc_S} {l1 : Int32} {q : Int32 × tc_S} (h : m_XR_vramWord σ l1 = some q) : Met l yXR_vramWord [.code yXR_vramWord cXR_vramWord 2 (some .int)] (tc_R 0) (tc_Pc D cA (tc_rW ad cA σ) [.ref (ad 0), .int l1]) (tc_Qi D (tc_rW ad cA q.2) A q.1) 0 0 A :=
  tc_met (by decide) (Nat.le_of_ble_eq_true rfl) (fun _ _ _ _ _ _ _ C hP _ hl => w_XR_vramWord_0 C hJ h hP va_S.rf hl)
def m_XR_readData_72 (σ : tc_S) (l3 : Int32) : Option (Int32 × tc_S) := ((m_XR_grow σ).bind (fun q73 => (some (l3, q73))))
set_option maxHeartbeats 4000000 in
set_option maxRecDepth 100000 in
theorem w_XR_readData_72 (C : tc_C p s m args meth c RXR cXR_readData 4 (some .int) D cA) (hJ : ∀ σ, va_D A (tc_rW ad cA σ)) {q : Int32 × tc_S} {σ : tc_S} {l3 : Int32} {H : Heap} {locs : List Loc} {ls : Array Slot} (h : m_XR_readData_72 σ l3 = some q) (hP : va_P D vwCl (tc_rW ad cA σ) H) (hS : va_S A s.heap H locs) (hl : lv_has ls 4 [(0, .ref (ad 0)), (3, .int l3)]) : W p l e (tc_R 1) s m args below meth c H locs 0 0 (MQ below (tc_Qi D (tc_rW ad cA q.2) A q.1) args s 0 0 A) (F0 m 72 ls []) := by
  have C0 := C
  obtain ⟨hx, hb, hml, hown, ⟨hK, hN⟩, hr, hlk⟩ := C
  unfold m_XR_readData_72 at h
  refine lv_aload_n hx hb dXR_readData_72 rfl (lv_at hl 0 rfl) ?_
  obtain ⟨q73, e73, h⟩ := tc_bd_some h
  refine tc_cVv (As := []) (rest := []) C0 (k_XR_grow hJ e73) tv_XR_138 (by decide) (by decide) hP hS hl 0 rfl rfl (Nat.le_of_ble_eq_true rfl) dXR_readData_73 rfl (fun H locs hP hS => ?_)
  refine lv_iload_n hx hb dXR_readData_76 rfl (lv_at hl 1 rfl) ?_
  exact tc_rri C0 hP hS h dXR_readData_77
def m_XR_readData (σ : tc_S) : Option (Int32 × tc_S) := (if ((tc_gf (tc_sf σ 21 0) 20) &&& 15) = 0 then ((m_XR_vramWord (tc_sf σ 21 0) (((tc_gf (tc_sf σ 21 0) 19) / 2) - ((tc_gf (tc_sf σ 21 0) 19) / 2) / 512 * 512)).bind (fun q32 => (m_XR_readData_72 q32.2 q32.1))) else (if ((tc_gf (tc_sf σ 21 0) 20) &&& 15) = 8 then (tc_gd (((tc_gf (tc_sf σ 21 0) 19) / 2) - ((tc_gf (tc_sf σ 21 0) 19) / 2) / 16 * 16) 16 (m_XR_readData_72 (tc_sf σ 21 0) (tc_ga (tc_sf σ 21 0) 3 (((tc_gf (tc_sf σ 21 0) 19) / 2) - ((tc_gf (tc_sf σ 21 0) 19) / 2) / 16 * 16)))) else (if ((tc_gf (tc_sf σ 21 0) 20) &&& 15) = 4 then (tc_gd (((tc_gf (tc_sf σ 21 0) 19) / 2) - ((tc_gf (tc_sf σ 21 0) 19) / 2) / 2 * 2) 2 (m_XR_readData_72 (tc_sf σ 21 0) (tc_ga (tc_sf σ 21 0) 4 (((tc_gf (tc_sf σ 21 0) 19) / 2) - ((tc_gf (tc_sf σ 21 0) 19) / 2) / 2 * 2)))) else (m_XR_readData_72 (tc_sf σ 21 0) 0))))
set_option maxHeartbeats 4000000 in
set_option maxRecDepth 100000 in
theorem w_XR_readData_0 (C : tc_C p s m args meth c RXR cXR_readData 4 (some .int) D cA) (hJ : ∀ σ, va_D A (tc_rW ad cA σ)) {q : Int32 × tc_S} {σ : tc_S} {H : Heap} {locs : List Loc} {ls : Array Slot} (h : m_XR_readData σ = some q) (hP : va_P D vwCl (tc_rW ad cA σ) H) (hS : va_S A s.heap H locs) (hl : lv_has ls 4 [(0, .ref (ad 0))]) : W p l e (tc_R 1) s m args below meth c H locs 0 0 (MQ below (tc_Qi D (tc_rW ad cA q.2) A q.1) args s 0 0 A) (F0 m 0 ls []) := by
  have C0 := C
  obtain ⟨hx, hb, hml, hown, ⟨hK, hN⟩, hr, hlk⟩ := C
  unfold m_XR_readData at h
  refine lv_aload_n hx hb dXR_readData_0 rfl (lv_at hl 0 rfl) ?_
  refine lv_iconst (v := 0) hx hb dXR_readData_1 (by decide) ?_
  refine tc_rp21 C0 hJ hP hS (tc_use hN tw_656) ⟨by decide, by decide⟩ dXR_readData_2 (fun H locs hP hS => ?_)
  refine lv_aload_n hx hb dXR_readData_5 rfl (lv_at hl 0 rfl) ?_
  refine tc_rg20 C0 hP (tc_use hN tw_655) dXR_readData_6 ?_
  refine lv_bipush (v := 15) hx hb dXR_readData_9 (by decide) ?_
  refine lv_iand hx hb dXR_readData_11 ?_
  refine lv_istore_n (lv' := [(1, .int ((tc_gf (tc_sf σ 21 0) 20) &&& 15)), (0, .ref (ad 0))]) hx hb dXR_readData_12 rfl hl (by decide) rfl (fun ls hl => ?_)
  refine lv_aload_n hx hb dXR_readData_13 rfl (lv_at hl 1 rfl) ?_
  refine tc_rg19 C0 hP (tc_use hN tw_654) dXR_readData_14 ?_
  refine lv_iconst (v := 2) hx hb dXR_readData_17 (by decide) ?_
  refine lv_idiv hx hb dXR_readData_18 (by decide) ?_
  refine lv_istore_n (lv' := [(2, .int ((tc_gf (tc_sf σ 21 0) 19) / 2)), (1, .int ((tc_gf (tc_sf σ 21 0) 20) &&& 15)), (0, .ref (ad 0))]) hx hb dXR_readData_19 rfl hl (by decide) rfl (fun ls hl => ?_)
  refine lv_iconst (v := 0) hx hb dXR_readData_20 (by decide) ?_
  refine lv_istore_n (lv' := [(3, .int 0), (2, .int ((tc_gf (tc_sf σ 21 0) 19) / 2)), (1, .int ((tc_gf (tc_sf σ 21 0) 20) &&& 15)), (0, .ref (ad 0))]) hx hb dXR_readData_21 rfl hl (by decide) rfl (fun ls hl => ?_)
  refine lv_iload_n hx hb dXR_readData_22 rfl (lv_at hl 2 rfl) ?_
  refine lv_if_ne (tgt := 39) hx hb dXR_readData_23 (by decide) (fun hc => ?_) (fun hc => ?_)
  · have h := tc_in hc h
    refine lv_iload_n hx hb dXR_readData_39 rfl (lv_at hl 2 rfl) ?_
    refine lv_bipush (v := 8) hx hb dXR_readData_40 (by decide) ?_
    refine lv_icmp_ne (tgt := 58) hx hb dXR_readData_42 (by decide) (fun hc => ?_) (fun hc => ?_)
    · have h := tc_in hc h
      refine lv_iload_n hx hb dXR_readData_58 rfl (lv_at hl 2 rfl) ?_
      refine lv_iconst (v := 4) hx hb dXR_readData_59 (by decide) ?_
      refine lv_icmp_ne (tgt := 72) hx hb dXR_readData_60 (by decide) (fun hc => ?_) (fun hc => ?_)
      · have h := tc_in hc h
        exact w_XR_readData_72 C0 hJ h hP hS (lv_sub hl [3, 0] rfl)
      · have h := tc_ip hc h
        refine lv_aload_n hx hb dXR_readData_63 rfl (lv_at hl 3 rfl) ?_
        refine tc_rr_XR_vsram C0 hP (tc_use hN tw_652) dXR_readData_64 ?_
        refine lv_iload_n hx hb dXR_readData_67 rfl (lv_at hl 1 rfl) ?_
        refine lv_iconst (v := 2) hx hb dXR_readData_68 (by decide) ?_
        refine lv_irem hx hb dXR_readData_69 (by decide) ?_
        obtain ⟨hi, h⟩ := tc_gd_some h
        refine tc_rld7 C0 hP hi dXR_readData_70 ?_
        refine lv_istore_n (lv' := [(3, .int (tc_ga (tc_sf σ 21 0) 4 (((tc_gf (tc_sf σ 21 0) 19) / 2) - ((tc_gf (tc_sf σ 21 0) 19) / 2) / 2 * 2))), (2, .int ((tc_gf (tc_sf σ 21 0) 19) / 2)), (1, .int ((tc_gf (tc_sf σ 21 0) 20) &&& 15)), (0, .ref (ad 0))]) hx hb dXR_readData_71 rfl hl (by decide) rfl (fun ls hl => ?_)
        exact w_XR_readData_72 C0 hJ h hP hS (lv_sub hl [3, 0] rfl)
    · have h := tc_ip hc h
      refine lv_aload_n hx hb dXR_readData_45 rfl (lv_at hl 3 rfl) ?_
      refine tc_rr_XR_cram C0 hP (tc_use hN tw_651) dXR_readData_46 ?_
      refine lv_iload_n hx hb dXR_readData_49 rfl (lv_at hl 1 rfl) ?_
      refine lv_bipush (v := 16) hx hb dXR_readData_50 (by decide) ?_
      refine lv_irem hx hb dXR_readData_52 (by decide) ?_
      obtain ⟨hi, h⟩ := tc_gd_some h
      refine tc_rld6 C0 hP hi dXR_readData_53 ?_
      refine lv_istore_n (lv' := [(3, .int (tc_ga (tc_sf σ 21 0) 3 (((tc_gf (tc_sf σ 21 0) 19) / 2) - ((tc_gf (tc_sf σ 21 0) 19) / 2) / 16 * 16))), (2, .int ((tc_gf (tc_sf σ 21 0) 19) / 2)), (1, .int ((tc_gf (tc_sf σ 21 0) 20) &&& 15)), (0, .ref (ad 0))]) hx hb dXR_readData_54 rfl hl (by decide) rfl (fun ls hl => ?_)
      refine lv_goto (tgt := 72) hx hb dXR_readData_55 (by decide) ?_
      exact w_XR_readData_72 C0 hJ h hP hS (lv_sub hl [3, 0] rfl)
  · have h := tc_ip hc h
    refine lv_aload_n hx hb dXR_readData_26 rfl (lv_at hl 3 rfl) ?_
    refine lv_iload_n hx hb dXR_readData_27 rfl (lv_at hl 1 rfl) ?_
    refine lv_sipush (v := 512) hx hb dXR_readData_28 (by decide) ?_
    refine lv_irem hx hb dXR_readData_31 (by decide) ?_
    obtain ⟨q32, e32, h⟩ := tc_bd_some h
    refine tc_cVi (As := [.int (((tc_gf (tc_sf σ 21 0) 19) / 2) - ((tc_gf (tc_sf σ 21 0) 19) / 2) / 512 * 512)]) (rest := []) C0 (k_XR_vramWord hJ e32) tv_XR_135 (by decide) (by decide) hP hS hl 0 rfl rfl (Nat.le_of_ble_eq_true rfl) dXR_readData_32 rfl (fun H locs hP hS => ?_)
    refine lv_istore_n (lv' := [(3, .int q32.1), (2, .int ((tc_gf (tc_sf σ 21 0) 19) / 2)), (1, .int ((tc_gf (tc_sf σ 21 0) 20) &&& 15)), (0, .ref (ad 0))]) hx hb dXR_readData_35 rfl hl (by decide) rfl (fun ls hl => ?_)
    refine lv_goto (tgt := 72) hx hb dXR_readData_36 (by decide) ?_
    exact w_XR_readData_72 C0 hJ h hP hS (lv_sub hl [3, 0] rfl)
theorem k_XR_readData (hJ : ∀ σ, va_D A (tc_rW ad cA σ)) {σ : tc_S} {q : Int32 × tc_S} (h : m_XR_readData σ = some q) : Met l yXR_readData [.code yXR_readData cXR_readData 4 (some .int)] (tc_R 1) (tc_Pc D cA (tc_rW ad cA σ) [.ref (ad 0)]) (tc_Qi D (tc_rW ad cA q.2) A q.1) 0 0 A :=
  tc_met (by decide) (Nat.le_of_ble_eq_true rfl) (fun _ _ _ _ _ _ _ C hP _ hl => w_XR_readData_0 C hJ h hP va_S.rf hl)
def m_XR_status_68 (σ : tc_S) (k0 k1 : Int32) : Option (Int32 × tc_S) := (some ((k1 + k0), (tc_sf (tc_sf (tc_sf σ 25 0) 26 0) 21 0)))
set_option maxHeartbeats 4000000 in
set_option maxRecDepth 100000 in
theorem w_XR_status_68 (C : tc_C p s m args meth c RXR cXR_status 2 (some .int) D cA) (hJ : ∀ σ, va_D A (tc_rW ad cA σ)) {q : Int32 × tc_S} {σ : tc_S} {k0 k1 : Int32} {H : Heap} {locs : List Loc} {ls : Array Slot} (h : m_XR_status_68 σ k0 k1 = some q) (hP : va_P D vwCl (tc_rW ad cA σ) H) (hS : va_S A s.heap H locs) (hl : lv_has ls 2 [(0, .ref (ad 0))]) : W p l e (tc_R 0) s m args below meth c H locs 0 0 (MQ below (tc_Qi D (tc_rW ad cA q.2) A q.1) args s 0 0 A) (F0 m 68 ls [.int k0, .int k1]) := by
  have C0 := C
  obtain ⟨hx, hb, hml, hown, ⟨hK, hN⟩, hr, hlk⟩ := C
  unfold m_XR_status_68 at h
  refine lv_iadd hx hb dXR_status_68 ?_
  refine lv_istore_n (lv' := [(1, .int (k1 + k0)), (0, .ref (ad 0))]) hx hb dXR_status_69 rfl hl (by decide) rfl (fun ls hl => ?_)
  refine lv_aload_n hx hb dXR_status_70 rfl (lv_at hl 1 rfl) ?_
  refine lv_iconst (v := 0) hx hb dXR_status_71 (by decide) ?_
  refine tc_rp25 C0 hJ hP hS (tc_use hN tw_660) ⟨by decide, by decide⟩ dXR_status_72 (fun H locs hP hS => ?_)
  refine lv_aload_n hx hb dXR_status_75 rfl (lv_at hl 1 rfl) ?_
  refine lv_iconst (v := 0) hx hb dXR_status_76 (by decide) ?_
  refine tc_rp26 C0 hJ hP hS (tc_use hN tw_661) ⟨by decide, by decide⟩ dXR_status_77 (fun H locs hP hS => ?_)
  refine lv_aload_n hx hb dXR_status_80 rfl (lv_at hl 1 rfl) ?_
  refine lv_iconst (v := 0) hx hb dXR_status_81 (by decide) ?_
  refine tc_rp21 C0 hJ hP hS (tc_use hN tw_656) ⟨by decide, by decide⟩ dXR_status_82 (fun H locs hP hS => ?_)
  refine lv_iload_n hx hb dXR_status_85 rfl (lv_at hl 0 rfl) ?_
  exact tc_rri C0 hP hS h dXR_status_86
def m_XR_status_54 (σ : tc_S) (k0 k1 : Int32) : Option (Int32 × tc_S) := (if (tc_gf σ 26) = 0 then (m_XR_status_68 σ 0 (k1 + k0)) else (m_XR_status_68 σ 64 (k1 + k0)))
set_option maxHeartbeats 4000000 in
set_option maxRecDepth 100000 in
theorem w_XR_status_54 (C : tc_C p s m args meth c RXR cXR_status 2 (some .int) D cA) (hJ : ∀ σ, va_D A (tc_rW ad cA σ)) {q : Int32 × tc_S} {σ : tc_S} {k0 k1 : Int32} {H : Heap} {locs : List Loc} {ls : Array Slot} (h : m_XR_status_54 σ k0 k1 = some q) (hP : va_P D vwCl (tc_rW ad cA σ) H) (hS : va_S A s.heap H locs) (hl : lv_has ls 2 [(0, .ref (ad 0))]) : W p l e (tc_R 0) s m args below meth c H locs 0 0 (MQ below (tc_Qi D (tc_rW ad cA q.2) A q.1) args s 0 0 A) (F0 m 54 ls [.int k0, .int k1]) := by
  have C0 := C
  obtain ⟨hx, hb, hml, hown, ⟨hK, hN⟩, hr, hlk⟩ := C
  unfold m_XR_status_54 at h
  refine lv_iadd hx hb dXR_status_54 ?_
  refine lv_aload_n hx hb dXR_status_55 rfl (lv_at hl 0 rfl) ?_
  refine tc_rg26 C0 hP (tc_use hN tw_661) dXR_status_56 ?_
  refine lv_if_eq (tgt := 67) hx hb dXR_status_59 (by decide) (fun hc => ?_) (fun hc => ?_)
  · have h := tc_ip hc h
    refine lv_iconst (v := 0) hx hb dXR_status_67 (by decide) ?_
    exact w_XR_status_68 C0 hJ h hP hS (lv_sub hl [0] rfl)
  · have h := tc_in hc h
    refine lv_bipush (v := 64) hx hb dXR_status_62 (by decide) ?_
    refine lv_goto (tgt := 68) hx hb dXR_status_64 (by decide) ?_
    exact w_XR_status_68 C0 hJ h hP hS (lv_sub hl [0] rfl)
def m_XR_status_40 (σ : tc_S) (k0 k1 : Int32) : Option (Int32 × tc_S) := (if (tc_gf σ 25) = 0 then (m_XR_status_54 σ 0 (k1 + k0)) else (m_XR_status_54 σ 32 (k1 + k0)))
set_option maxHeartbeats 4000000 in
set_option maxRecDepth 100000 in
theorem w_XR_status_40 (C : tc_C p s m args meth c RXR cXR_status 2 (some .int) D cA) (hJ : ∀ σ, va_D A (tc_rW ad cA σ)) {q : Int32 × tc_S} {σ : tc_S} {k0 k1 : Int32} {H : Heap} {locs : List Loc} {ls : Array Slot} (h : m_XR_status_40 σ k0 k1 = some q) (hP : va_P D vwCl (tc_rW ad cA σ) H) (hS : va_S A s.heap H locs) (hl : lv_has ls 2 [(0, .ref (ad 0))]) : W p l e (tc_R 0) s m args below meth c H locs 0 0 (MQ below (tc_Qi D (tc_rW ad cA q.2) A q.1) args s 0 0 A) (F0 m 40 ls [.int k0, .int k1]) := by
  have C0 := C
  obtain ⟨hx, hb, hml, hown, ⟨hK, hN⟩, hr, hlk⟩ := C
  unfold m_XR_status_40 at h
  refine lv_iadd hx hb dXR_status_40 ?_
  refine lv_aload_n hx hb dXR_status_41 rfl (lv_at hl 0 rfl) ?_
  refine tc_rg25 C0 hP (tc_use hN tw_660) dXR_status_42 ?_
  refine lv_if_eq (tgt := 53) hx hb dXR_status_45 (by decide) (fun hc => ?_) (fun hc => ?_)
  · have h := tc_ip hc h
    refine lv_iconst (v := 0) hx hb dXR_status_53 (by decide) ?_
    exact w_XR_status_54 C0 hJ h hP hS (lv_sub hl [0] rfl)
  · have h := tc_in hc h
    refine lv_bipush (v := 32) hx hb dXR_status_48 (by decide) ?_
    refine lv_goto (tgt := 54) hx hb dXR_status_50 (by decide) ?_
    exact w_XR_status_54 C0 hJ h hP hS (lv_sub hl [0] rfl)
def m_XR_status_26 (σ : tc_S) (k0 k1 : Int32) : Option (Int32 × tc_S) := (if (tc_gf σ 31) = 0 then (m_XR_status_40 σ 0 (k1 + k0)) else (m_XR_status_40 σ 8 (k1 + k0)))
set_option maxHeartbeats 4000000 in
set_option maxRecDepth 100000 in
theorem w_XR_status_26 (C : tc_C p s m args meth c RXR cXR_status 2 (some .int) D cA) (hJ : ∀ σ, va_D A (tc_rW ad cA σ)) {q : Int32 × tc_S} {σ : tc_S} {k0 k1 : Int32} {H : Heap} {locs : List Loc} {ls : Array Slot} (h : m_XR_status_26 σ k0 k1 = some q) (hP : va_P D vwCl (tc_rW ad cA σ) H) (hS : va_S A s.heap H locs) (hl : lv_has ls 2 [(0, .ref (ad 0))]) : W p l e (tc_R 0) s m args below meth c H locs 0 0 (MQ below (tc_Qi D (tc_rW ad cA q.2) A q.1) args s 0 0 A) (F0 m 26 ls [.int k0, .int k1]) := by
  have C0 := C
  obtain ⟨hx, hb, hml, hown, ⟨hK, hN⟩, hr, hlk⟩ := C
  unfold m_XR_status_26 at h
  refine lv_iadd hx hb dXR_status_26 ?_
  refine lv_aload_n hx hb dXR_status_27 rfl (lv_at hl 0 rfl) ?_
  refine tc_rg31 C0 hP (tc_use hN tw_635) dXR_status_28 ?_
  refine lv_if_eq (tgt := 39) hx hb dXR_status_31 (by decide) (fun hc => ?_) (fun hc => ?_)
  · have h := tc_ip hc h
    refine lv_iconst (v := 0) hx hb dXR_status_39 (by decide) ?_
    exact w_XR_status_40 C0 hJ h hP hS (lv_sub hl [0] rfl)
  · have h := tc_in hc h
    refine lv_bipush (v := 8) hx hb dXR_status_34 (by decide) ?_
    refine lv_goto (tgt := 40) hx hb dXR_status_36 (by decide) ?_
    exact w_XR_status_40 C0 hJ h hP hS (lv_sub hl [0] rfl)
def m_XR_status_12 (σ : tc_S) (k0 : Int32) : Option (Int32 × tc_S) := (if (tc_gf σ 27) < 8 then (m_XR_status_26 σ 0 k0) else (m_XR_status_26 σ 4 k0))
set_option maxHeartbeats 4000000 in
set_option maxRecDepth 100000 in
theorem w_XR_status_12 (C : tc_C p s m args meth c RXR cXR_status 2 (some .int) D cA) (hJ : ∀ σ, va_D A (tc_rW ad cA σ)) {q : Int32 × tc_S} {σ : tc_S} {k0 : Int32} {H : Heap} {locs : List Loc} {ls : Array Slot} (h : m_XR_status_12 σ k0 = some q) (hP : va_P D vwCl (tc_rW ad cA σ) H) (hS : va_S A s.heap H locs) (hl : lv_has ls 2 [(0, .ref (ad 0))]) : W p l e (tc_R 0) s m args below meth c H locs 0 0 (MQ below (tc_Qi D (tc_rW ad cA q.2) A q.1) args s 0 0 A) (F0 m 12 ls [.int k0]) := by
  have C0 := C
  obtain ⟨hx, hb, hml, hown, ⟨hK, hN⟩, hr, hlk⟩ := C
  unfold m_XR_status_12 at h
  refine lv_aload_n hx hb dXR_status_12 rfl (lv_at hl 0 rfl) ?_
  refine tc_rg27 C0 hP (tc_use hN tw_662) dXR_status_13 ?_
  refine lv_bipush (v := 8) hx hb dXR_status_16 (by decide) ?_
  refine lv_icmp_lt (tgt := 25) hx hb dXR_status_18 (by decide) (fun hc => ?_) (fun hc => ?_)
  · have h := tc_ip hc h
    refine lv_iconst (v := 0) hx hb dXR_status_25 (by decide) ?_
    exact w_XR_status_26 C0 hJ h hP hS (lv_sub hl [0] rfl)
  · have h := tc_in hc h
    refine lv_iconst (v := 4) hx hb dXR_status_21 (by decide) ?_
    refine lv_goto (tgt := 26) hx hb dXR_status_22 (by decide) ?_
    exact w_XR_status_26 C0 hJ h hP hS (lv_sub hl [0] rfl)
def m_XR_status (σ : tc_S) : Option (Int32 × tc_S) := (if (tc_gf σ 23) ≤ 0 then (m_XR_status_12 σ 0) else (m_XR_status_12 σ 2))
set_option maxHeartbeats 4000000 in
set_option maxRecDepth 100000 in
theorem w_XR_status_0 (C : tc_C p s m args meth c RXR cXR_status 2 (some .int) D cA) (hJ : ∀ σ, va_D A (tc_rW ad cA σ)) {q : Int32 × tc_S} {σ : tc_S} {H : Heap} {locs : List Loc} {ls : Array Slot} (h : m_XR_status σ = some q) (hP : va_P D vwCl (tc_rW ad cA σ) H) (hS : va_S A s.heap H locs) (hl : lv_has ls 2 [(0, .ref (ad 0))]) : W p l e (tc_R 0) s m args below meth c H locs 0 0 (MQ below (tc_Qi D (tc_rW ad cA q.2) A q.1) args s 0 0 A) (F0 m 0 ls []) := by
  have C0 := C
  obtain ⟨hx, hb, hml, hown, ⟨hK, hN⟩, hr, hlk⟩ := C
  unfold m_XR_status at h
  refine lv_aload_n hx hb dXR_status_0 rfl (lv_at hl 0 rfl) ?_
  refine tc_rg23 C0 hP (tc_use hN tw_658) dXR_status_1 ?_
  refine lv_if_le (tgt := 11) hx hb dXR_status_4 (by decide) (fun hc => ?_) (fun hc => ?_)
  · have h := tc_ip hc h
    refine lv_iconst (v := 0) hx hb dXR_status_11 (by decide) ?_
    exact w_XR_status_12 C0 hJ h hP hS (lv_sub hl [0] rfl)
  · have h := tc_in hc h
    refine lv_iconst (v := 2) hx hb dXR_status_7 (by decide) ?_
    refine lv_goto (tgt := 12) hx hb dXR_status_8 (by decide) ?_
    exact w_XR_status_12 C0 hJ h hP hS (lv_sub hl [0] rfl)
theorem k_XR_status (hJ : ∀ σ, va_D A (tc_rW ad cA σ)) {σ : tc_S} {q : Int32 × tc_S} (h : m_XR_status σ = some q) : Met l yXR_status [.code yXR_status cXR_status 2 (some .int)] (tc_R 0) (tc_Pc D cA (tc_rW ad cA σ) [.ref (ad 0)]) (tc_Qi D (tc_rW ad cA q.2) A q.1) 0 0 A :=
  tc_met (by decide) (Nat.le_of_ble_eq_true rfl) (fun _ _ _ _ _ _ _ C hP _ hl => w_XR_status_0 C hJ h hP va_S.rf hl)
def m_XR_padWord_46 (σ : tc_S) (k0 : Int32) : Option (Int32 × tc_S) := (some (k0, σ))
set_option maxHeartbeats 4000000 in
set_option maxRecDepth 100000 in
theorem w_XR_padWord_46 (C : tc_C p s m args meth c RXR cXR_padWord 2 (some .int) D cA) (hJ : ∀ σ, va_D A (tc_rW ad cA σ)) {q : Int32 × tc_S} {σ : tc_S} {k0 : Int32} {H : Heap} {locs : List Loc} {ls : Array Slot} (h : m_XR_padWord_46 σ k0 = some q) (hP : va_P D vwCl (tc_rW ad cA σ) H) (hS : va_S A s.heap H locs) (hl : lv_has ls 2 []) : W p l e (tc_R 0) s m args below meth c H locs 0 0 (MQ below (tc_Qi D (tc_rW ad cA q.2) A q.1) args s 0 0 A) (F0 m 46 ls [.int k0]) := by
  have C0 := C
  obtain ⟨hx, hb, hml, hown, ⟨hK, hN⟩, hr, hlk⟩ := C
  unfold m_XR_padWord_46 at h
  exact tc_rri C0 hP hS h dXR_padWord_46
def m_XR_padWord (σ : tc_S) : Option (Int32 × tc_S) := (if (tc_gf σ 33) = 1 then (m_XR_padWord_46 σ (64 + ((tc_gf σ 32) &&& 63))) else (m_XR_padWord_46 σ ((((((tc_gf σ 32) >>> ((7 : Int32) &&& 31)) &&& 1) * 32) + ((((tc_gf σ 32) >>> ((6 : Int32) &&& 31)) &&& 1) * 16)) + ((tc_gf σ 32) &&& 3))))
set_option maxHeartbeats 4000000 in
set_option maxRecDepth 100000 in
theorem w_XR_padWord_0 (C : tc_C p s m args meth c RXR cXR_padWord 2 (some .int) D cA) (hJ : ∀ σ, va_D A (tc_rW ad cA σ)) {q : Int32 × tc_S} {σ : tc_S} {H : Heap} {locs : List Loc} {ls : Array Slot} (h : m_XR_padWord σ = some q) (hP : va_P D vwCl (tc_rW ad cA σ) H) (hS : va_S A s.heap H locs) (hl : lv_has ls 2 [(0, .ref (ad 0))]) : W p l e (tc_R 0) s m args below meth c H locs 0 0 (MQ below (tc_Qi D (tc_rW ad cA q.2) A q.1) args s 0 0 A) (F0 m 0 ls []) := by
  have C0 := C
  obtain ⟨hx, hb, hml, hown, ⟨hK, hN⟩, hr, hlk⟩ := C
  unfold m_XR_padWord at h
  refine lv_aload_n hx hb dXR_padWord_0 rfl (lv_at hl 0 rfl) ?_
  refine tc_rg32 C0 hP (tc_use hN tw_636) dXR_padWord_1 ?_
  refine lv_istore_n (lv' := [(1, .int (tc_gf σ 32)), (0, .ref (ad 0))]) hx hb dXR_padWord_4 rfl hl (by decide) rfl (fun ls hl => ?_)
  refine lv_aload_n hx hb dXR_padWord_5 rfl (lv_at hl 1 rfl) ?_
  refine tc_rg33 C0 hP (tc_use hN tw_637) dXR_padWord_6 ?_
  refine lv_iconst (v := 1) hx hb dXR_padWord_9 (by decide) ?_
  refine lv_icmp_ne (tgt := 23) hx hb dXR_padWord_10 (by decide) (fun hc => ?_) (fun hc => ?_)
  · have h := tc_in hc h
    refine lv_iload_n hx hb dXR_padWord_23 rfl (lv_at hl 0 rfl) ?_
    refine lv_bipush (v := 7) hx hb dXR_padWord_24 (by decide) ?_
    refine lv_ishr hx hb dXR_padWord_26 ?_
    refine lv_iconst (v := 1) hx hb dXR_padWord_27 (by decide) ?_
    refine lv_iand hx hb dXR_padWord_28 ?_
    refine lv_bipush (v := 32) hx hb dXR_padWord_29 (by decide) ?_
    refine lv_imul hx hb dXR_padWord_31 ?_
    refine lv_iload_n hx hb dXR_padWord_32 rfl (lv_at hl 0 rfl) ?_
    refine lv_bipush (v := 6) hx hb dXR_padWord_33 (by decide) ?_
    refine lv_ishr hx hb dXR_padWord_35 ?_
    refine lv_iconst (v := 1) hx hb dXR_padWord_36 (by decide) ?_
    refine lv_iand hx hb dXR_padWord_37 ?_
    refine lv_bipush (v := 16) hx hb dXR_padWord_38 (by decide) ?_
    refine lv_imul hx hb dXR_padWord_40 ?_
    refine lv_iadd hx hb dXR_padWord_41 ?_
    refine lv_iload_n hx hb dXR_padWord_42 rfl (lv_at hl 0 rfl) ?_
    refine lv_iconst (v := 3) hx hb dXR_padWord_43 (by decide) ?_
    refine lv_iand hx hb dXR_padWord_44 ?_
    refine lv_iadd hx hb dXR_padWord_45 ?_
    exact w_XR_padWord_46 C0 hJ h hP hS (lv_sub hl [] rfl)
  · have h := tc_ip hc h
    refine lv_bipush (v := 64) hx hb dXR_padWord_13 (by decide) ?_
    refine lv_iload_n hx hb dXR_padWord_15 rfl (lv_at hl 0 rfl) ?_
    refine lv_bipush (v := 63) hx hb dXR_padWord_16 (by decide) ?_
    refine lv_iand hx hb dXR_padWord_18 ?_
    refine lv_iadd hx hb dXR_padWord_19 ?_
    refine lv_goto (tgt := 46) hx hb dXR_padWord_20 (by decide) ?_
    exact w_XR_padWord_46 C0 hJ h hP hS (lv_sub hl [] rfl)
theorem k_XR_padWord (hJ : ∀ σ, va_D A (tc_rW ad cA σ)) {σ : tc_S} {q : Int32 × tc_S} (h : m_XR_padWord σ = some q) : Met l yXR_padWord [.code yXR_padWord cXR_padWord 2 (some .int)] (tc_R 0) (tc_Pc D cA (tc_rW ad cA σ) [.ref (ad 0)]) (tc_Qi D (tc_rW ad cA q.2) A q.1) 0 0 A :=
  tc_met (by decide) (Nat.le_of_ble_eq_true rfl) (fun _ _ _ _ _ _ _ C hP _ hl => w_XR_padWord_0 C hJ h hP va_S.rf hl)
def m_XR_read_102 (σ : tc_S) (k0 : Int32) : Option (Int32 × tc_S) := (some (k0, σ))
set_option maxHeartbeats 4000000 in
set_option maxRecDepth 100000 in
theorem w_XR_read_102 (C : tc_C p s m args meth c RXR cXR_read 2 (some .int) D cA) (hJ : ∀ σ, va_D A (tc_rW ad cA σ)) {q : Int32 × tc_S} {σ : tc_S} {k0 : Int32} {H : Heap} {locs : List Loc} {ls : Array Slot} (h : m_XR_read_102 σ k0 = some q) (hP : va_P D vwCl (tc_rW ad cA σ) H) (hS : va_S A s.heap H locs) (hl : lv_has ls 2 []) : W p l e (tc_R 2) s m args below meth c H locs 0 0 (MQ below (tc_Qi D (tc_rW ad cA q.2) A q.1) args s 0 0 A) (F0 m 102 ls [.int k0]) := by
  have C0 := C
  obtain ⟨hx, hb, hml, hown, ⟨hK, hN⟩, hr, hlk⟩ := C
  unfold m_XR_read_102 at h
  exact tc_rri C0 hP hS h dXR_read_102
def m_XR_read (σ : tc_S) (l1 : Int32) : Option (Int32 × tc_S) := (if 1024 ≤ l1 then (if l1 = 1024 then ((m_XR_readData σ).bind (fun q65 => (some (q65.1, q65.2)))) else (if l1 = 1028 then ((m_XR_status σ).bind (fun q70 => (some (q70.1, q70.2)))) else (if l1 = 1032 then (some (((256 * (tc_gf σ 27)) + (tc_gf σ 28)), σ)) else (if l1 = 1040 then (if (tc_gf σ 15) = 0 then (m_XR_read_102 σ 256) else (m_XR_read_102 σ 0)) else (if l1 = 1048 then ((m_XR_padWord σ).bind (fun q104 => (some (q104.1, q104.2)))) else (some (0, σ))))))) else ((m_XR_quiet σ l1).bind (fun q9 => (some (q9.1, q9.2)))))
set_option maxHeartbeats 4000000 in
set_option maxRecDepth 100000 in
theorem w_XR_read_0 (C : tc_C p s m args meth c RXR cXR_read 2 (some .int) D cA) (hJ : ∀ σ, va_D A (tc_rW ad cA σ)) {q : Int32 × tc_S} {σ : tc_S} {l1 : Int32} {H : Heap} {locs : List Loc} {ls : Array Slot} (h : m_XR_read σ l1 = some q) (hP : va_P D vwCl (tc_rW ad cA σ) H) (hS : va_S A s.heap H locs) (hl : lv_has ls 2 [(0, .ref (ad 0)), (1, .int l1)]) : W p l e (tc_R 2) s m args below meth c H locs 0 0 (MQ below (tc_Qi D (tc_rW ad cA q.2) A q.1) args s 0 0 A) (F0 m 0 ls []) := by
  have C0 := C
  obtain ⟨hx, hb, hml, hown, ⟨hK, hN⟩, hr, hlk⟩ := C
  unfold m_XR_read at h
  refine lv_iload_n hx hb dXR_read_0 rfl (lv_at hl 1 rfl) ?_
  refine lv_sipush (v := 1024) hx hb dXR_read_1 (by decide) ?_
  refine lv_icmp_ge (tgt := 13) hx hb dXR_read_4 (by decide) (fun hc => ?_) (fun hc => ?_)
  · have h := tc_ip hc h
    refine lv_iload_n hx hb dXR_read_13 rfl (lv_at hl 1 rfl) ?_
    by_cases hc0 : l1 = 1024
    · have h := tc_ip hc0 h
      refine lv_lookup (off := 50) (tgt := 64) hx hb dXR_read_14 (by decide) (by rw [hc0]; decide) (by decide) ?_
      refine lv_aload_n hx hb dXR_read_64 rfl (lv_at hl 0 rfl) ?_
      obtain ⟨q65, e65, h⟩ := tc_bd_some h
      refine tc_cVi (As := []) (rest := []) C0 (k_XR_readData hJ e65) tv_XR_80 (by decide) (by decide) hP hS hl 0 rfl rfl (Nat.le_of_ble_eq_true rfl) dXR_read_65 rfl (fun H locs hP hS => ?_)
      exact tc_rri C0 hP hS h dXR_read_68
    have h := tc_in hc0 h
    by_cases hc1 : l1 = 1028
    · have h := tc_ip hc1 h
      refine lv_lookup (off := 55) (tgt := 69) hx hb dXR_read_14 (by decide) (by rw [hc1]; decide) (by decide) ?_
      refine lv_aload_n hx hb dXR_read_69 rfl (lv_at hl 0 rfl) ?_
      obtain ⟨q70, e70, h⟩ := tc_bd_some h
      refine tc_cVi (As := []) (rest := []) C0 (k_XR_status hJ e70) tv_XR_84 (by decide) (by decide) hP hS hl 0 rfl rfl (Nat.le_of_ble_eq_true rfl) dXR_read_70 rfl (fun H locs hP hS => ?_)
      exact tc_rri C0 hP hS h dXR_read_73
    have h := tc_in hc1 h
    by_cases hc2 : l1 = 1032
    · have h := tc_ip hc2 h
      refine lv_lookup (off := 60) (tgt := 74) hx hb dXR_read_14 (by decide) (by rw [hc2]; decide) (by decide) ?_
      refine lv_sipush (v := 256) hx hb dXR_read_74 (by decide) ?_
      refine lv_aload_n hx hb dXR_read_77 rfl (lv_at hl 0 rfl) ?_
      refine tc_rg27 C0 hP (tc_use hN tw_662) dXR_read_78 ?_
      refine lv_imul hx hb dXR_read_81 ?_
      refine lv_aload_n hx hb dXR_read_82 rfl (lv_at hl 0 rfl) ?_
      refine tc_rg28 C0 hP (tc_use hN tw_663) dXR_read_83 ?_
      refine lv_iadd hx hb dXR_read_86 ?_
      exact tc_rri C0 hP hS h dXR_read_87
    have h := tc_in hc2 h
    by_cases hc3 : l1 = 1040
    · have h := tc_ip hc3 h
      refine lv_lookup (off := 74) (tgt := 88) hx hb dXR_read_14 (by decide) (by rw [hc3]; decide) (by decide) ?_
      refine lv_aload_n hx hb dXR_read_88 rfl (lv_at hl 0 rfl) ?_
      refine tc_rg15 C0 hP (tc_use hN tw_646) dXR_read_89 ?_
      refine lv_if_eq (tgt := 99) hx hb dXR_read_92 (by decide) (fun hc => ?_) (fun hc => ?_)
      · have h := tc_ip hc h
        refine lv_sipush (v := 256) hx hb dXR_read_99 (by decide) ?_
        exact w_XR_read_102 C0 hJ h hP hS (lv_sub hl [] rfl)
      · have h := tc_in hc h
        refine lv_iconst (v := 0) hx hb dXR_read_95 (by decide) ?_
        refine lv_goto (tgt := 102) hx hb dXR_read_96 (by decide) ?_
        exact w_XR_read_102 C0 hJ h hP hS (lv_sub hl [] rfl)
    have h := tc_in hc3 h
    by_cases hc4 : l1 = 1048
    · have h := tc_ip hc4 h
      refine lv_lookup (off := 89) (tgt := 103) hx hb dXR_read_14 (by decide) (by rw [hc4]; decide) (by decide) ?_
      refine lv_aload_n hx hb dXR_read_103 rfl (lv_at hl 0 rfl) ?_
      obtain ⟨q104, e104, h⟩ := tc_bd_some h
      refine tc_cVi (As := []) (rest := []) C0 (k_XR_padWord hJ e104) tv_XR_90 (by decide) (by decide) hP hS hl 0 rfl rfl (Nat.le_of_ble_eq_true rfl) dXR_read_104 rfl (fun H locs hP hS => ?_)
      exact tc_rri C0 hP hS h dXR_read_107
    have h := tc_in hc4 h
    refine lv_lookup (off := 94) (tgt := 108) hx hb dXR_read_14 (by decide) (by show Op.lookupswitch.offset [(1024, 50), (1028, 55), (1032, 60), (1040, 74), (1048, 89)] _ _ = _; rw [lv_osw (a := 1024) hc0 (by decide), lv_osw (a := 1028) hc1 (by decide), lv_osw (a := 1032) hc2 (by decide), lv_osw (a := 1040) hc3 (by decide), lv_osw (a := 1048) hc4 (by decide)]; rfl) (by decide) ?_
    refine lv_iconst (v := 0) hx hb dXR_read_108 (by decide) ?_
    exact tc_rri C0 hP hS h dXR_read_109
  · have h := tc_in hc h
    refine lv_aload_n hx hb dXR_read_7 rfl (lv_at hl 0 rfl) ?_
    refine lv_iload_n hx hb dXR_read_8 rfl (lv_at hl 1 rfl) ?_
    obtain ⟨q9, e9, h⟩ := tc_bd_some h
    refine tc_cVi (As := [.int l1]) (rest := []) C0 (k_XR_quiet hJ e9) tv_XR_76 (by decide) (by decide) hP hS hl 0 rfl rfl (Nat.le_of_ble_eq_true rfl) dXR_read_9 rfl (fun H locs hP hS => ?_)
    exact tc_rri C0 hP hS h dXR_read_12
theorem k_XR_read (hJ : ∀ σ, va_D A (tc_rW ad cA σ)) {σ : tc_S} {l1 : Int32} {q : Int32 × tc_S} (h : m_XR_read σ l1 = some q) : Met l yXR_read [.code yXR_read cXR_read 2 (some .int)] (tc_R 2) (tc_Pc D cA (tc_rW ad cA σ) [.ref (ad 0), .int l1]) (tc_Qi D (tc_rW ad cA q.2) A q.1) 0 0 A :=
  tc_met (by decide) (Nat.le_of_ble_eq_true rfl) (fun _ _ _ _ _ _ _ C hP _ hl => w_XR_read_0 C hJ h hP va_S.rf hl)
def m_XR_move_227 (σ : tc_S) (l1 l2 l3 l4 : Int32) : Option (Int32 × tc_S) := (if l1 = 12796 then ((m_XR_fetch σ).bind (fun q235 => ((m_XR_fetch q235.2).bind (fun q242 => ((m_XR_write q242.2 q242.1 q235.1).bind (fun q247 => ((m_XR_testWord q247 q235.1).bind (fun q253 => (some (16, q253)))))))))) else (if l4 = 53312 then (tc_gd l2 8 (tc_gd l3 8 ((m_XR_add σ ((tc_ga σ 0 l2) &&& 65535) ((tc_ga σ 0 l3) &&& 65535) 0).bind (fun q288 => ((m_XR_setLow q288.2 l2 q288.1).bind (fun q291 => (some (4, q291)))))))) else (if l4 = 45120 then (tc_gd l2 8 (tc_gd l3 8 ((m_XR_add σ ((tc_ga σ 0 l2) &&& 65535) ((tc_ga σ 0 l3) &&& 65535) 1).bind (fun q323 => (some (4, q323.2)))))) else (some ((-1), σ)))))
set_option maxHeartbeats 4000000 in
set_option maxRecDepth 100000 in
theorem w_XR_move_227 (C : tc_C p s m args meth c RXR cXR_move 6 (some .int) D cA) (hJ : ∀ σ, va_D A (tc_rW ad cA σ)) {q : Int32 × tc_S} {σ : tc_S} {l1 l2 l3 l4 : Int32} {H : Heap} {locs : List Loc} {ls : Array Slot} (h : m_XR_move_227 σ l1 l2 l3 l4 = some q) (hP : va_P D vwCl (tc_rW ad cA σ) H) (hS : va_S A s.heap H locs) (hl : lv_has ls 6 [(0, .ref (ad 0)), (1, .int l1), (2, .int l2), (3, .int l3), (4, .int l4)]) : W p l e (tc_R 4) s m args below meth c H locs 0 0 (MQ below (tc_Qi D (tc_rW ad cA q.2) A q.1) args s 0 0 A) (F0 m 227 ls []) := by
  have C0 := C
  obtain ⟨hx, hb, hml, hown, ⟨hK, hN⟩, hr, hlk⟩ := C
  unfold m_XR_move_227 at h
  refine lv_iload_n hx hb dXR_move_227 rfl (lv_at hl 1 rfl) ?_
  refine lv_sipush (v := 12796) hx hb dXR_move_228 (by decide) ?_
  refine lv_icmp_ne (tgt := 259) hx hb dXR_move_231 (by decide) (fun hc => ?_) (fun hc => ?_)
  · have h := tc_in hc h
    refine lv_iload hx hb dXR_move_259 (lv_at hl 4 rfl) ?_
    refine lv_ldc (v := 53312) hx hb hown (tc_use hN tw_897) dXR_move_261 ?_
    refine lv_icmp_ne (tgt := 296) hx hb dXR_move_263 (by decide) (fun hc => ?_) (fun hc => ?_)
    · have h := tc_in hc h
      refine lv_iload hx hb dXR_move_296 (lv_at hl 4 rfl) ?_
      refine lv_ldc (v := 45120) hx hb hown (tc_use hN tw_902) dXR_move_298 ?_
      refine lv_icmp_ne (tgt := 330) hx hb dXR_move_300 (by decide) (fun hc => ?_) (fun hc => ?_)
      · have h := tc_in hc h
        refine lv_iconst (v := (-1)) hx hb dXR_move_330 (by decide) ?_
        exact tc_rri C0 hP hS h dXR_move_331
      · have h := tc_ip hc h
        refine lv_aload_n hx hb dXR_move_303 rfl (lv_at hl 0 rfl) ?_
        refine lv_aload_n hx hb dXR_move_304 rfl (lv_at hl 0 rfl) ?_
        refine tc_rr_XR_d C0 hP (tc_use hN tw_623) dXR_move_305 ?_
        refine lv_iload_n hx hb dXR_move_308 rfl (lv_at hl 2 rfl) ?_
        obtain ⟨hi, h⟩ := tc_gd_some h
        refine tc_rld3 C0 hP hi dXR_move_309 ?_
        refine lv_ldc (v := 65535) hx hb hown (tc_use hN tw_807) dXR_move_310 ?_
        refine lv_iand hx hb dXR_move_312 ?_
        refine lv_aload_n hx hb dXR_move_313 rfl (lv_at hl 0 rfl) ?_
        refine tc_rr_XR_d C0 hP (tc_use hN tw_623) dXR_move_314 ?_
        refine lv_iload_n hx hb dXR_move_317 rfl (lv_at hl 3 rfl) ?_
        obtain ⟨hi, h⟩ := tc_gd_some h
        refine tc_rld3 C0 hP hi dXR_move_318 ?_
        refine lv_ldc (v := 65535) hx hb hown (tc_use hN tw_807) dXR_move_319 ?_
        refine lv_iand hx hb dXR_move_321 ?_
        refine lv_iconst (v := 1) hx hb dXR_move_322 (by decide) ?_
        obtain ⟨q323, e323, h⟩ := tc_bd_some h
        refine tc_cVi (As := [.int ((tc_ga σ 0 l2) &&& 65535), .int ((tc_ga σ 0 l3) &&& 65535), .int 1]) (rest := []) C0 (k_XR_add hJ e323) tv_XR_212 (by decide) (by decide) hP hS hl 0 rfl rfl (Nat.le_of_ble_eq_true rfl) dXR_move_323 rfl (fun H locs hP hS => ?_)
        refine lv_istore (lv' := [(5, .int q323.1), (0, .ref (ad 0)), (1, .int l1), (2, .int l2), (3, .int l3), (4, .int l4)]) hx hb dXR_move_326 hl (by decide) rfl (fun ls hl => ?_)
        refine lv_iconst (v := 4) hx hb dXR_move_328 (by decide) ?_
        exact tc_rri C0 hP hS h dXR_move_329
    · have h := tc_ip hc h
      refine lv_aload_n hx hb dXR_move_266 rfl (lv_at hl 0 rfl) ?_
      refine lv_iload_n hx hb dXR_move_267 rfl (lv_at hl 2 rfl) ?_
      refine lv_aload_n hx hb dXR_move_268 rfl (lv_at hl 0 rfl) ?_
      refine lv_aload_n hx hb dXR_move_269 rfl (lv_at hl 0 rfl) ?_
      refine tc_rr_XR_d C0 hP (tc_use hN tw_623) dXR_move_270 ?_
      refine lv_iload_n hx hb dXR_move_273 rfl (lv_at hl 2 rfl) ?_
      obtain ⟨hi, h⟩ := tc_gd_some h
      refine tc_rld3 C0 hP hi dXR_move_274 ?_
      refine lv_ldc (v := 65535) hx hb hown (tc_use hN tw_807) dXR_move_275 ?_
      refine lv_iand hx hb dXR_move_277 ?_
      refine lv_aload_n hx hb dXR_move_278 rfl (lv_at hl 0 rfl) ?_
      refine tc_rr_XR_d C0 hP (tc_use hN tw_623) dXR_move_279 ?_
      refine lv_iload_n hx hb dXR_move_282 rfl (lv_at hl 3 rfl) ?_
      obtain ⟨hi, h⟩ := tc_gd_some h
      refine tc_rld3 C0 hP hi dXR_move_283 ?_
      refine lv_ldc (v := 65535) hx hb hown (tc_use hN tw_807) dXR_move_284 ?_
      refine lv_iand hx hb dXR_move_286 ?_
      refine lv_iconst (v := 0) hx hb dXR_move_287 (by decide) ?_
      obtain ⟨q288, e288, h⟩ := tc_bd_some h
      refine tc_cVi (As := [.int ((tc_ga σ 0 l2) &&& 65535), .int ((tc_ga σ 0 l3) &&& 65535), .int 0]) (rest := [.int l2, .ref (ad 0)]) C0 (k_XR_add hJ e288) tv_XR_212 (by decide) (by decide) hP hS hl 0 rfl rfl (Nat.le_of_ble_eq_true rfl) dXR_move_288 rfl (fun H locs hP hS => ?_)
      obtain ⟨q291, e291, h⟩ := tc_bd_some h
      refine tc_cVv (As := [.int l2, .int q288.1]) (rest := []) C0 (k_XR_setLow hJ e291) tv_XR_199 (by decide) (by decide) hP hS hl 0 rfl rfl (Nat.le_of_ble_eq_true rfl) dXR_move_291 rfl (fun H locs hP hS => ?_)
      refine lv_iconst (v := 4) hx hb dXR_move_294 (by decide) ?_
      exact tc_rri C0 hP hS h dXR_move_295
  · have h := tc_ip hc h
    refine lv_aload_n hx hb dXR_move_234 rfl (lv_at hl 0 rfl) ?_
    obtain ⟨q235, e235, h⟩ := tc_bd_some h
    refine tc_cVi (As := []) (rest := []) C0 (k_XR_fetch hJ e235) tv_XR_205 (by decide) (by decide) hP hS hl 0 rfl rfl (Nat.le_of_ble_eq_true rfl) dXR_move_235 rfl (fun H locs hP hS => ?_)
    refine lv_istore (lv' := [(5, .int q235.1), (0, .ref (ad 0)), (1, .int l1), (2, .int l2), (3, .int l3), (4, .int l4)]) hx hb dXR_move_238 hl (by decide) rfl (fun ls hl => ?_)
    refine lv_aload_n hx hb dXR_move_240 rfl (lv_at hl 1 rfl) ?_
    refine lv_aload_n hx hb dXR_move_241 rfl (lv_at hl 1 rfl) ?_
    obtain ⟨q242, e242, h⟩ := tc_bd_some h
    refine tc_cVi (As := []) (rest := [.ref (ad 0)]) C0 (k_XR_fetch hJ e242) tv_XR_205 (by decide) (by decide) hP hS hl 0 rfl rfl (Nat.le_of_ble_eq_true rfl) dXR_move_242 rfl (fun H locs hP hS => ?_)
    refine lv_iload hx hb dXR_move_245 (lv_at hl 0 rfl) ?_
    obtain ⟨q247, e247, h⟩ := tc_bd_some h
    refine tc_cVv (As := [.int q242.1, .int q235.1]) (rest := []) C0 (k_XR_write hJ e247) tv_XR_189 (by decide) (by decide) hP hS hl 0 rfl rfl (Nat.le_of_ble_eq_true rfl) dXR_move_247 rfl (fun H locs hP hS => ?_)
    refine lv_aload_n hx hb dXR_move_250 rfl (lv_at hl 1 rfl) ?_
    refine lv_iload hx hb dXR_move_251 (lv_at hl 0 rfl) ?_
    obtain ⟨q253, e253, h⟩ := tc_bd_some h
    refine tc_cVv (As := [.int q235.1]) (rest := []) C0 (k_XR_testWord hJ e253) tv_XR_202 (by decide) (by decide) hP hS hl 0 rfl rfl (Nat.le_of_ble_eq_true rfl) dXR_move_253 rfl (fun H locs hP hS => ?_)
    refine lv_bipush (v := 16) hx hb dXR_move_256 (by decide) ?_
    exact tc_rri C0 hP hS h dXR_move_258
def m_XR_move_183 (σ : tc_S) (l1 l2 l3 l4 : Int32) : Option (Int32 × tc_S) := (if l1 < 12736 then (m_XR_move_227 σ l1 l2 l3 l4) else (if 12744 ≤ l1 then (m_XR_move_227 σ l1 l2 l3 l4) else (tc_gd l3 8 ((m_XR_fetch σ).bind (fun q210 => ((m_XR_write q210.2 q210.1 ((tc_ga σ 0 l3) &&& 65535)).bind (fun q215 => ((m_XR_testWord q215 ((tc_ga σ 0 l3) &&& 65535)).bind (fun q221 => (some (12, q221)))))))))))
set_option maxHeartbeats 4000000 in
set_option maxRecDepth 100000 in
theorem w_XR_move_183 (C : tc_C p s m args meth c RXR cXR_move 6 (some .int) D cA) (hJ : ∀ σ, va_D A (tc_rW ad cA σ)) {q : Int32 × tc_S} {σ : tc_S} {l1 l2 l3 l4 : Int32} {H : Heap} {locs : List Loc} {ls : Array Slot} (h : m_XR_move_183 σ l1 l2 l3 l4 = some q) (hP : va_P D vwCl (tc_rW ad cA σ) H) (hS : va_S A s.heap H locs) (hl : lv_has ls 6 [(0, .ref (ad 0)), (1, .int l1), (2, .int l2), (3, .int l3), (4, .int l4)]) : W p l e (tc_R 4) s m args below meth c H locs 0 0 (MQ below (tc_Qi D (tc_rW ad cA q.2) A q.1) args s 0 0 A) (F0 m 183 ls []) := by
  have C0 := C
  obtain ⟨hx, hb, hml, hown, ⟨hK, hN⟩, hr, hlk⟩ := C
  unfold m_XR_move_183 at h
  refine lv_iload_n hx hb dXR_move_183 rfl (lv_at hl 1 rfl) ?_
  refine lv_sipush (v := 12736) hx hb dXR_move_184 (by decide) ?_
  refine lv_icmp_lt (tgt := 227) hx hb dXR_move_187 (by decide) (fun hc => ?_) (fun hc => ?_)
  · have h := tc_ip hc h
    exact w_XR_move_227 C0 hJ h hP hS (lv_sub hl [0, 1, 2, 3, 4] rfl)
  · have h := tc_in hc h
    refine lv_iload_n hx hb dXR_move_190 rfl (lv_at hl 1 rfl) ?_
    refine lv_sipush (v := 12744) hx hb dXR_move_191 (by decide) ?_
    refine lv_icmp_ge (tgt := 227) hx hb dXR_move_194 (by decide) (fun hc => ?_) (fun hc => ?_)
    · have h := tc_ip hc h
      exact w_XR_move_227 C0 hJ h hP hS (lv_sub hl [0, 1, 2, 3, 4] rfl)
    · have h := tc_in hc h
      refine lv_aload_n hx hb dXR_move_197 rfl (lv_at hl 0 rfl) ?_
      refine tc_rr_XR_d C0 hP (tc_use hN tw_623) dXR_move_198 ?_
      refine lv_iload_n hx hb dXR_move_201 rfl (lv_at hl 3 rfl) ?_
      obtain ⟨hi, h⟩ := tc_gd_some h
      refine tc_rld3 C0 hP hi dXR_move_202 ?_
      refine lv_ldc (v := 65535) hx hb hown (tc_use hN tw_807) dXR_move_203 ?_
      refine lv_iand hx hb dXR_move_205 ?_
      refine lv_istore (lv' := [(5, .int ((tc_ga σ 0 l3) &&& 65535)), (0, .ref (ad 0)), (1, .int l1), (2, .int l2), (3, .int l3), (4, .int l4)]) hx hb dXR_move_206 hl (by decide) rfl (fun ls hl => ?_)
      refine lv_aload_n hx hb dXR_move_208 rfl (lv_at hl 1 rfl) ?_
      refine lv_aload_n hx hb dXR_move_209 rfl (lv_at hl 1 rfl) ?_
      obtain ⟨q210, e210, h⟩ := tc_bd_some h
      refine tc_cVi (As := []) (rest := [.ref (ad 0)]) C0 (k_XR_fetch hJ e210) tv_XR_205 (by decide) (by decide) hP hS hl 0 rfl rfl (Nat.le_of_ble_eq_true rfl) dXR_move_210 rfl (fun H locs hP hS => ?_)
      refine lv_iload hx hb dXR_move_213 (lv_at hl 0 rfl) ?_
      obtain ⟨q215, e215, h⟩ := tc_bd_some h
      refine tc_cVv (As := [.int q210.1, .int ((tc_ga σ 0 l3) &&& 65535)]) (rest := []) C0 (k_XR_write hJ e215) tv_XR_189 (by decide) (by decide) hP hS hl 0 rfl rfl (Nat.le_of_ble_eq_true rfl) dXR_move_215 rfl (fun H locs hP hS => ?_)
      refine lv_aload_n hx hb dXR_move_218 rfl (lv_at hl 1 rfl) ?_
      refine lv_iload hx hb dXR_move_219 (lv_at hl 0 rfl) ?_
      obtain ⟨q221, e221, h⟩ := tc_bd_some h
      refine tc_cVv (As := [.int ((tc_ga σ 0 l3) &&& 65535)]) (rest := []) C0 (k_XR_testWord hJ e221) tv_XR_202 (by decide) (by decide) hP hS hl 0 rfl rfl (Nat.le_of_ble_eq_true rfl) dXR_move_221 rfl (fun H locs hP hS => ?_)
      refine lv_bipush (v := 12) hx hb dXR_move_224 (by decide) ?_
      exact tc_rri C0 hP hS h dXR_move_226
def m_XR_move_93 (σ : tc_S) (k0 : Int32) : Option (Int32 × tc_S) := (tc_gb k0 (some (4, (tc_sf (tc_sf (tc_sf σ 4 k0) 5 0) 6 0))))
set_option maxHeartbeats 4000000 in
set_option maxRecDepth 100000 in
theorem w_XR_move_93 (C : tc_C p s m args meth c RXR cXR_move 6 (some .int) D cA) (hJ : ∀ σ, va_D A (tc_rW ad cA σ)) {q : Int32 × tc_S} {σ : tc_S} {k0 : Int32} {H : Heap} {locs : List Loc} {ls : Array Slot} (h : m_XR_move_93 σ k0 = some q) (hP : va_P D vwCl (tc_rW ad cA σ) H) (hS : va_S A s.heap H locs) (hl : lv_has ls 6 [(0, .ref (ad 0))]) : W p l e (tc_R 4) s m args below meth c H locs 0 0 (MQ below (tc_Qi D (tc_rW ad cA q.2) A q.1) args s 0 0 A) (F0 m 93 ls [.int k0, .ref (ad 0)]) := by
  have C0 := C
  obtain ⟨hx, hb, hml, hown, ⟨hK, hN⟩, hr, hlk⟩ := C
  unfold m_XR_move_93 at h
  obtain ⟨hz, h⟩ := tc_gb_some h
  refine tc_rp4 C0 hJ hP hS (tc_use hN tw_628) hz dXR_move_93 (fun H locs hP hS => ?_)
  refine lv_aload_n hx hb dXR_move_96 rfl (lv_at hl 0 rfl) ?_
  refine lv_iconst (v := 0) hx hb dXR_move_97 (by decide) ?_
  refine tc_rp5 C0 hJ hP hS (tc_use hN tw_629) ⟨by decide, by decide⟩ dXR_move_98 (fun H locs hP hS => ?_)
  refine lv_aload_n hx hb dXR_move_101 rfl (lv_at hl 0 rfl) ?_
  refine lv_iconst (v := 0) hx hb dXR_move_102 (by decide) ?_
  refine tc_rp6 C0 hJ hP hS (tc_use hN tw_630) ⟨by decide, by decide⟩ dXR_move_103 (fun H locs hP hS => ?_)
  refine lv_iconst (v := 4) hx hb dXR_move_106 (by decide) ?_
  exact tc_rri C0 hP hS h dXR_move_107
def m_XR_move_75 (σ : tc_S) (l2 k0 : Int32) : Option (Int32 × tc_S) := (tc_gb k0 (tc_gd l2 8 (if (tc_ga (tc_sf σ 3 k0) 0 l2) = 0 then (m_XR_move_93 (tc_sf σ 3 k0) 1) else (m_XR_move_93 (tc_sf σ 3 k0) 0))))
set_option maxHeartbeats 4000000 in
set_option maxRecDepth 100000 in
theorem w_XR_move_75 (C : tc_C p s m args meth c RXR cXR_move 6 (some .int) D cA) (hJ : ∀ σ, va_D A (tc_rW ad cA σ)) {q : Int32 × tc_S} {σ : tc_S} {l2 k0 : Int32} {H : Heap} {locs : List Loc} {ls : Array Slot} (h : m_XR_move_75 σ l2 k0 = some q) (hP : va_P D vwCl (tc_rW ad cA σ) H) (hS : va_S A s.heap H locs) (hl : lv_has ls 6 [(0, .ref (ad 0)), (2, .int l2)]) : W p l e (tc_R 4) s m args below meth c H locs 0 0 (MQ below (tc_Qi D (tc_rW ad cA q.2) A q.1) args s 0 0 A) (F0 m 75 ls [.int k0, .ref (ad 0)]) := by
  have C0 := C
  obtain ⟨hx, hb, hml, hown, ⟨hK, hN⟩, hr, hlk⟩ := C
  unfold m_XR_move_75 at h
  obtain ⟨hz, h⟩ := tc_gb_some h
  refine tc_rp3 C0 hJ hP hS (tc_use hN tw_627) hz dXR_move_75 (fun H locs hP hS => ?_)
  refine lv_aload_n hx hb dXR_move_78 rfl (lv_at hl 0 rfl) ?_
  refine lv_aload_n hx hb dXR_move_79 rfl (lv_at hl 0 rfl) ?_
  refine tc_rr_XR_d C0 hP (tc_use hN tw_623) dXR_move_80 ?_
  refine lv_iload_n hx hb dXR_move_83 rfl (lv_at hl 1 rfl) ?_
  obtain ⟨hi, h⟩ := tc_gd_some h
  refine tc_rld3 C0 hP hi dXR_move_84 ?_
  refine lv_if_ne (tgt := 92) hx hb dXR_move_85 (by decide) (fun hc => ?_) (fun hc => ?_)
  · have h := tc_in hc h
    refine lv_iconst (v := 0) hx hb dXR_move_92 (by decide) ?_
    exact w_XR_move_93 C0 hJ h hP hS (lv_sub hl [0] rfl)
  · have h := tc_ip hc h
    refine lv_iconst (v := 1) hx hb dXR_move_88 (by decide) ?_
    refine lv_goto (tgt := 93) hx hb dXR_move_89 (by decide) ?_
    exact w_XR_move_93 C0 hJ h hP hS (lv_sub hl [0] rfl)
def m_XR_move_59 (σ : tc_S) (l2 k0 k1 : Int32) : Option (Int32 × tc_S) := (tc_gd k1 8 (tc_gd l2 8 (if 0 ≤ (tc_ga (tc_sa σ 0 k1 k0) 0 l2) then (m_XR_move_75 (tc_sa σ 0 k1 k0) l2 0) else (m_XR_move_75 (tc_sa σ 0 k1 k0) l2 1))))
set_option maxHeartbeats 4000000 in
set_option maxRecDepth 100000 in
theorem w_XR_move_59 (C : tc_C p s m args meth c RXR cXR_move 6 (some .int) D cA) (hJ : ∀ σ, va_D A (tc_rW ad cA σ)) {q : Int32 × tc_S} {σ : tc_S} {l2 k0 k1 : Int32} {H : Heap} {locs : List Loc} {ls : Array Slot} (h : m_XR_move_59 σ l2 k0 k1 = some q) (hP : va_P D vwCl (tc_rW ad cA σ) H) (hS : va_S A s.heap H locs) (hl : lv_has ls 6 [(0, .ref (ad 0)), (2, .int l2)]) : W p l e (tc_R 4) s m args below meth c H locs 0 0 (MQ below (tc_Qi D (tc_rW ad cA q.2) A q.1) args s 0 0 A) (F0 m 59 ls [.int k0, .int k1, .ref (ad 3)]) := by
  have C0 := C
  obtain ⟨hx, hb, hml, hown, ⟨hK, hN⟩, hr, hlk⟩ := C
  unfold m_XR_move_59 at h
  obtain ⟨hi, h⟩ := tc_gd_some h
  refine tc_rst3 C0 hJ hP hS hi dXR_move_59 (fun H locs hP hS => ?_)
  refine lv_aload_n hx hb dXR_move_60 rfl (lv_at hl 0 rfl) ?_
  refine lv_aload_n hx hb dXR_move_61 rfl (lv_at hl 0 rfl) ?_
  refine tc_rr_XR_d C0 hP (tc_use hN tw_623) dXR_move_62 ?_
  refine lv_iload_n hx hb dXR_move_65 rfl (lv_at hl 1 rfl) ?_
  obtain ⟨hi, h⟩ := tc_gd_some h
  refine tc_rld3 C0 hP hi dXR_move_66 ?_
  refine lv_if_ge (tgt := 74) hx hb dXR_move_67 (by decide) (fun hc => ?_) (fun hc => ?_)
  · have h := tc_ip hc h
    refine lv_iconst (v := 0) hx hb dXR_move_74 (by decide) ?_
    exact w_XR_move_75 C0 hJ h hP hS (lv_sub hl [0, 1] rfl)
  · have h := tc_in hc h
    refine lv_iconst (v := 1) hx hb dXR_move_70 (by decide) ?_
    refine lv_goto (tgt := 75) hx hb dXR_move_71 (by decide) ?_
    exact w_XR_move_75 C0 hJ h hP hS (lv_sub hl [0, 1] rfl)
def m_XR_move (σ : tc_S) (l1 : Int32) : Option (Int32 × tc_S) := (if (l1 &&& 61696) = 28672 then (if (l1 &&& 255) ≤ 127 then (m_XR_move_59 σ ((l1 >>> ((9 : Int32) &&& 31)) &&& 7) (l1 &&& 255) ((l1 >>> ((9 : Int32) &&& 31)) &&& 7)) else (m_XR_move_59 σ ((l1 >>> ((9 : Int32) &&& 31)) &&& 7) ((l1 &&& 255) - 256) ((l1 >>> ((9 : Int32) &&& 31)) &&& 7))) else (if (l1 &&& 61944) = 12288 then (tc_gd (l1 &&& 7) 8 ((m_XR_setLow σ ((l1 >>> ((9 : Int32) &&& 31)) &&& 7) ((tc_ga σ 0 (l1 &&& 7)) &&& 65535)).bind (fun q127 => (tc_gd (l1 &&& 7) 8 ((m_XR_testWord q127 ((tc_ga q127 0 (l1 &&& 7)) &&& 65535)).bind (fun q140 => (some (4, q140)))))))) else (if (l1 &&& 61944) = 12344 then (if (l1 &&& 7) = 0 then ((m_XR_fetch σ).bind (fun q159 => ((m_XR_read q159.2 q159.1).bind (fun q162 => ((m_XR_setLow q162.2 ((l1 >>> ((9 : Int32) &&& 31)) &&& 7) q162.1).bind (fun q171 => ((m_XR_testWord q171 q162.1).bind (fun q177 => (some (12, q177)))))))))) else (m_XR_move_183 σ l1 ((l1 >>> ((9 : Int32) &&& 31)) &&& 7) (l1 &&& 7) (l1 &&& 61944))) else (m_XR_move_183 σ l1 ((l1 >>> ((9 : Int32) &&& 31)) &&& 7) (l1 &&& 7) (l1 &&& 61944)))))
set_option maxHeartbeats 4000000 in
set_option maxRecDepth 100000 in
theorem w_XR_move_0 (C : tc_C p s m args meth c RXR cXR_move 6 (some .int) D cA) (hJ : ∀ σ, va_D A (tc_rW ad cA σ)) {q : Int32 × tc_S} {σ : tc_S} {l1 : Int32} {H : Heap} {locs : List Loc} {ls : Array Slot} (h : m_XR_move σ l1 = some q) (hP : va_P D vwCl (tc_rW ad cA σ) H) (hS : va_S A s.heap H locs) (hl : lv_has ls 6 [(0, .ref (ad 0)), (1, .int l1)]) : W p l e (tc_R 4) s m args below meth c H locs 0 0 (MQ below (tc_Qi D (tc_rW ad cA q.2) A q.1) args s 0 0 A) (F0 m 0 ls []) := by
  have C0 := C
  obtain ⟨hx, hb, hml, hown, ⟨hK, hN⟩, hr, hlk⟩ := C
  unfold m_XR_move at h
  refine lv_iload_n hx hb dXR_move_0 rfl (lv_at hl 1 rfl) ?_
  refine lv_bipush (v := 9) hx hb dXR_move_1 (by decide) ?_
  refine lv_ishr hx hb dXR_move_3 ?_
  refine lv_bipush (v := 7) hx hb dXR_move_4 (by decide) ?_
  refine lv_iand hx hb dXR_move_6 ?_
  refine lv_istore_n (lv' := [(2, .int ((l1 >>> ((9 : Int32) &&& 31)) &&& 7)), (0, .ref (ad 0)), (1, .int l1)]) hx hb dXR_move_7 rfl hl (by decide) rfl (fun ls hl => ?_)
  refine lv_iload_n hx hb dXR_move_8 rfl (lv_at hl 2 rfl) ?_
  refine lv_bipush (v := 7) hx hb dXR_move_9 (by decide) ?_
  refine lv_iand hx hb dXR_move_11 ?_
  refine lv_istore_n (lv' := [(3, .int (l1 &&& 7)), (2, .int ((l1 >>> ((9 : Int32) &&& 31)) &&& 7)), (0, .ref (ad 0)), (1, .int l1)]) hx hb dXR_move_12 rfl hl (by decide) rfl (fun ls hl => ?_)
  refine lv_iload_n hx hb dXR_move_13 rfl (lv_at hl 3 rfl) ?_
  refine lv_ldc (v := 61944) hx hb hown (tc_use hN tw_865) dXR_move_14 ?_
  refine lv_iand hx hb dXR_move_16 ?_
  refine lv_istore (lv' := [(4, .int (l1 &&& 61944)), (3, .int (l1 &&& 7)), (2, .int ((l1 >>> ((9 : Int32) &&& 31)) &&& 7)), (0, .ref (ad 0)), (1, .int l1)]) hx hb dXR_move_17 hl (by decide) rfl (fun ls hl => ?_)
  refine lv_iload_n hx hb dXR_move_19 rfl (lv_at hl 4 rfl) ?_
  refine lv_ldc (v := 61696) hx hb hown (tc_use hN tw_866) dXR_move_20 ?_
  refine lv_iand hx hb dXR_move_22 ?_
  refine lv_sipush (v := 28672) hx hb dXR_move_23 (by decide) ?_
  refine lv_icmp_ne (tgt := 108) hx hb dXR_move_26 (by decide) (fun hc => ?_) (fun hc => ?_)
  · have h := tc_in hc h
    refine lv_iload hx hb dXR_move_108 (lv_at hl 0 rfl) ?_
    refine lv_sipush (v := 12288) hx hb dXR_move_110 (by decide) ?_
    refine lv_icmp_ne (tgt := 145) hx hb dXR_move_113 (by decide) (fun hc => ?_) (fun hc => ?_)
    · have h := tc_in hc h
      refine lv_iload hx hb dXR_move_145 (lv_at hl 0 rfl) ?_
      refine lv_sipush (v := 12344) hx hb dXR_move_147 (by decide) ?_
      refine lv_icmp_ne (tgt := 183) hx hb dXR_move_150 (by decide) (fun hc => ?_) (fun hc => ?_)
      · have h := tc_in hc h
        exact w_XR_move_183 C0 hJ h hP hS (lv_sub hl [3, 4, 2, 1, 0] rfl)
      · have h := tc_ip hc h
        refine lv_iload_n hx hb dXR_move_153 rfl (lv_at hl 1 rfl) ?_
        refine lv_if_ne (tgt := 183) hx hb dXR_move_154 (by decide) (fun hc => ?_) (fun hc => ?_)
        · have h := tc_in hc h
          exact w_XR_move_183 C0 hJ h hP hS (lv_sub hl [3, 4, 2, 1, 0] rfl)
        · have h := tc_ip hc h
          refine lv_aload_n hx hb dXR_move_157 rfl (lv_at hl 3 rfl) ?_
          refine lv_aload_n hx hb dXR_move_158 rfl (lv_at hl 3 rfl) ?_
          obtain ⟨q159, e159, h⟩ := tc_bd_some h
          refine tc_cVi (As := []) (rest := [.ref (ad 0)]) C0 (k_XR_fetch hJ e159) tv_XR_205 (by decide) (by decide) hP hS hl 0 rfl rfl (Nat.le_of_ble_eq_true rfl) dXR_move_159 rfl (fun H locs hP hS => ?_)
          obtain ⟨q162, e162, h⟩ := tc_bd_some h
          refine tc_cVi (As := [.int q159.1]) (rest := []) C0 (k_XR_read hJ e162) tv_XR_208 (by decide) (by decide) hP hS hl 0 rfl rfl (Nat.le_of_ble_eq_true rfl) dXR_move_162 rfl (fun H locs hP hS => ?_)
          refine lv_istore (lv' := [(5, .int q162.1), (4, .int (l1 &&& 61944)), (3, .int (l1 &&& 7)), (2, .int ((l1 >>> ((9 : Int32) &&& 31)) &&& 7)), (0, .ref (ad 0)), (1, .int l1)]) hx hb dXR_move_165 hl (by decide) rfl (fun ls hl => ?_)
          refine lv_aload_n hx hb dXR_move_167 rfl (lv_at hl 4 rfl) ?_
          refine lv_iload_n hx hb dXR_move_168 rfl (lv_at hl 3 rfl) ?_
          refine lv_iload hx hb dXR_move_169 (lv_at hl 0 rfl) ?_
          obtain ⟨q171, e171, h⟩ := tc_bd_some h
          refine tc_cVv (As := [.int ((l1 >>> ((9 : Int32) &&& 31)) &&& 7), .int q162.1]) (rest := []) C0 (k_XR_setLow hJ e171) tv_XR_199 (by decide) (by decide) hP hS hl 0 rfl rfl (Nat.le_of_ble_eq_true rfl) dXR_move_171 rfl (fun H locs hP hS => ?_)
          refine lv_aload_n hx hb dXR_move_174 rfl (lv_at hl 4 rfl) ?_
          refine lv_iload hx hb dXR_move_175 (lv_at hl 0 rfl) ?_
          obtain ⟨q177, e177, h⟩ := tc_bd_some h
          refine tc_cVv (As := [.int q162.1]) (rest := []) C0 (k_XR_testWord hJ e177) tv_XR_202 (by decide) (by decide) hP hS hl 0 rfl rfl (Nat.le_of_ble_eq_true rfl) dXR_move_177 rfl (fun H locs hP hS => ?_)
          refine lv_bipush (v := 12) hx hb dXR_move_180 (by decide) ?_
          exact tc_rri C0 hP hS h dXR_move_182
    · have h := tc_ip hc h
      refine lv_aload_n hx hb dXR_move_116 rfl (lv_at hl 3 rfl) ?_
      refine lv_iload_n hx hb dXR_move_117 rfl (lv_at hl 2 rfl) ?_
      refine lv_aload_n hx hb dXR_move_118 rfl (lv_at hl 3 rfl) ?_
      refine tc_rr_XR_d C0 hP (tc_use hN tw_623) dXR_move_119 ?_
      refine lv_iload_n hx hb dXR_move_122 rfl (lv_at hl 1 rfl) ?_
      obtain ⟨hi, h⟩ := tc_gd_some h
      refine tc_rld3 C0 hP hi dXR_move_123 ?_
      refine lv_ldc (v := 65535) hx hb hown (tc_use hN tw_807) dXR_move_124 ?_
      refine lv_iand hx hb dXR_move_126 ?_
      obtain ⟨q127, e127, h⟩ := tc_bd_some h
      refine tc_cVv (As := [.int ((l1 >>> ((9 : Int32) &&& 31)) &&& 7), .int ((tc_ga σ 0 (l1 &&& 7)) &&& 65535)]) (rest := []) C0 (k_XR_setLow hJ e127) tv_XR_199 (by decide) (by decide) hP hS hl 0 rfl rfl (Nat.le_of_ble_eq_true rfl) dXR_move_127 rfl (fun H locs hP hS => ?_)
      refine lv_aload_n hx hb dXR_move_130 rfl (lv_at hl 3 rfl) ?_
      refine lv_aload_n hx hb dXR_move_131 rfl (lv_at hl 3 rfl) ?_
      refine tc_rr_XR_d C0 hP (tc_use hN tw_623) dXR_move_132 ?_
      refine lv_iload_n hx hb dXR_move_135 rfl (lv_at hl 1 rfl) ?_
      obtain ⟨hi, h⟩ := tc_gd_some h
      refine tc_rld3 C0 hP hi dXR_move_136 ?_
      refine lv_ldc (v := 65535) hx hb hown (tc_use hN tw_807) dXR_move_137 ?_
      refine lv_iand hx hb dXR_move_139 ?_
      obtain ⟨q140, e140, h⟩ := tc_bd_some h
      refine tc_cVv (As := [.int ((tc_ga q127 0 (l1 &&& 7)) &&& 65535)]) (rest := []) C0 (k_XR_testWord hJ e140) tv_XR_202 (by decide) (by decide) hP hS hl 0 rfl rfl (Nat.le_of_ble_eq_true rfl) dXR_move_140 rfl (fun H locs hP hS => ?_)
      refine lv_iconst (v := 4) hx hb dXR_move_143 (by decide) ?_
      exact tc_rri C0 hP hS h dXR_move_144
  · have h := tc_ip hc h
    refine lv_iload_n hx hb dXR_move_29 rfl (lv_at hl 4 rfl) ?_
    refine lv_sipush (v := 255) hx hb dXR_move_30 (by decide) ?_
    refine lv_iand hx hb dXR_move_33 ?_
    refine lv_istore (lv' := [(5, .int (l1 &&& 255)), (4, .int (l1 &&& 61944)), (3, .int (l1 &&& 7)), (2, .int ((l1 >>> ((9 : Int32) &&& 31)) &&& 7)), (0, .ref (ad 0)), (1, .int l1)]) hx hb dXR_move_34 hl (by decide) rfl (fun ls hl => ?_)
    refine lv_aload_n hx hb dXR_move_36 rfl (lv_at hl 4 rfl) ?_
    refine tc_rr_XR_d C0 hP (tc_use hN tw_623) dXR_move_37 ?_
    refine lv_iload_n hx hb dXR_move_40 rfl (lv_at hl 3 rfl) ?_
    refine lv_iload hx hb dXR_move_41 (lv_at hl 0 rfl) ?_
    refine lv_bipush (v := 127) hx hb dXR_move_43 (by decide) ?_
    refine lv_icmp_le (tgt := 57) hx hb dXR_move_45 (by decide) (fun hc => ?_) (fun hc => ?_)
    · have h := tc_ip hc h
      refine lv_iload hx hb dXR_move_57 (lv_at hl 0 rfl) ?_
      exact w_XR_move_59 C0 hJ h hP hS (lv_sub hl [4, 3] rfl)
    · have h := tc_in hc h
      refine lv_iload hx hb dXR_move_48 (lv_at hl 0 rfl) ?_
      refine lv_sipush (v := 256) hx hb dXR_move_50 (by decide) ?_
      refine lv_isub hx hb dXR_move_53 ?_
      refine lv_goto (tgt := 59) hx hb dXR_move_54 (by decide) ?_
      exact w_XR_move_59 C0 hJ h hP hS (lv_sub hl [4, 3] rfl)
theorem k_XR_move (hJ : ∀ σ, va_D A (tc_rW ad cA σ)) {σ : tc_S} {l1 : Int32} {q : Int32 × tc_S} (h : m_XR_move σ l1 = some q) : Met l yXR_move [.code yXR_move cXR_move 6 (some .int)] (tc_R 4) (tc_Pc D cA (tc_rW ad cA σ) [.ref (ad 0), .int l1]) (tc_Qi D (tc_rW ad cA q.2) A q.1) 0 0 A :=
  tc_met (by decide) (Nat.le_of_ble_eq_true rfl) (fun _ _ _ _ _ _ _ C hP _ hl => w_XR_move_0 C hJ h hP va_S.rf hl)
def m_XR_flagWord_60 (σ : tc_S) (k0 k1 : Int32) : Option (Int32 × tc_S) := (some ((k1 + k0), σ))
set_option maxHeartbeats 4000000 in
set_option maxRecDepth 100000 in
theorem w_XR_flagWord_60 (C : tc_C p s m args meth c RXR cXR_flagWord 1 (some .int) D cA) (hJ : ∀ σ, va_D A (tc_rW ad cA σ)) {q : Int32 × tc_S} {σ : tc_S} {k0 k1 : Int32} {H : Heap} {locs : List Loc} {ls : Array Slot} (h : m_XR_flagWord_60 σ k0 k1 = some q) (hP : va_P D vwCl (tc_rW ad cA σ) H) (hS : va_S A s.heap H locs) (hl : lv_has ls 1 []) : W p l e (tc_R 0) s m args below meth c H locs 0 0 (MQ below (tc_Qi D (tc_rW ad cA q.2) A q.1) args s 0 0 A) (F0 m 60 ls [.int k0, .int k1]) := by
  have C0 := C
  obtain ⟨hx, hb, hml, hown, ⟨hK, hN⟩, hr, hlk⟩ := C
  unfold m_XR_flagWord_60 at h
  refine lv_iadd hx hb dXR_flagWord_60 ?_
  exact tc_rri C0 hP hS h dXR_flagWord_61
def m_XR_flagWord_47 (σ : tc_S) (k0 k1 : Int32) : Option (Int32 × tc_S) := (if (tc_gf σ 6) = 0 then (m_XR_flagWord_60 σ 0 (k1 + k0)) else (m_XR_flagWord_60 σ 1 (k1 + k0)))
set_option maxHeartbeats 4000000 in
set_option maxRecDepth 100000 in
theorem w_XR_flagWord_47 (C : tc_C p s m args meth c RXR cXR_flagWord 1 (some .int) D cA) (hJ : ∀ σ, va_D A (tc_rW ad cA σ)) {q : Int32 × tc_S} {σ : tc_S} {k0 k1 : Int32} {H : Heap} {locs : List Loc} {ls : Array Slot} (h : m_XR_flagWord_47 σ k0 k1 = some q) (hP : va_P D vwCl (tc_rW ad cA σ) H) (hS : va_S A s.heap H locs) (hl : lv_has ls 1 [(0, .ref (ad 0))]) : W p l e (tc_R 0) s m args below meth c H locs 0 0 (MQ below (tc_Qi D (tc_rW ad cA q.2) A q.1) args s 0 0 A) (F0 m 47 ls [.int k0, .int k1]) := by
  have C0 := C
  obtain ⟨hx, hb, hml, hown, ⟨hK, hN⟩, hr, hlk⟩ := C
  unfold m_XR_flagWord_47 at h
  refine lv_iadd hx hb dXR_flagWord_47 ?_
  refine lv_aload_n hx hb dXR_flagWord_48 rfl (lv_at hl 0 rfl) ?_
  refine tc_rg6 C0 hP (tc_use hN tw_630) dXR_flagWord_49 ?_
  refine lv_if_eq (tgt := 59) hx hb dXR_flagWord_52 (by decide) (fun hc => ?_) (fun hc => ?_)
  · have h := tc_ip hc h
    refine lv_iconst (v := 0) hx hb dXR_flagWord_59 (by decide) ?_
    exact w_XR_flagWord_60 C0 hJ h hP hS (lv_sub hl [] rfl)
  · have h := tc_in hc h
    refine lv_iconst (v := 1) hx hb dXR_flagWord_55 (by decide) ?_
    refine lv_goto (tgt := 60) hx hb dXR_flagWord_56 (by decide) ?_
    exact w_XR_flagWord_60 C0 hJ h hP hS (lv_sub hl [] rfl)
def m_XR_flagWord_34 (σ : tc_S) (k0 k1 : Int32) : Option (Int32 × tc_S) := (if (tc_gf σ 5) = 0 then (m_XR_flagWord_47 σ 0 (k1 + k0)) else (m_XR_flagWord_47 σ 2 (k1 + k0)))
set_option maxHeartbeats 4000000 in
set_option maxRecDepth 100000 in
theorem w_XR_flagWord_34 (C : tc_C p s m args meth c RXR cXR_flagWord 1 (some .int) D cA) (hJ : ∀ σ, va_D A (tc_rW ad cA σ)) {q : Int32 × tc_S} {σ : tc_S} {k0 k1 : Int32} {H : Heap} {locs : List Loc} {ls : Array Slot} (h : m_XR_flagWord_34 σ k0 k1 = some q) (hP : va_P D vwCl (tc_rW ad cA σ) H) (hS : va_S A s.heap H locs) (hl : lv_has ls 1 [(0, .ref (ad 0))]) : W p l e (tc_R 0) s m args below meth c H locs 0 0 (MQ below (tc_Qi D (tc_rW ad cA q.2) A q.1) args s 0 0 A) (F0 m 34 ls [.int k0, .int k1]) := by
  have C0 := C
  obtain ⟨hx, hb, hml, hown, ⟨hK, hN⟩, hr, hlk⟩ := C
  unfold m_XR_flagWord_34 at h
  refine lv_iadd hx hb dXR_flagWord_34 ?_
  refine lv_aload_n hx hb dXR_flagWord_35 rfl (lv_at hl 0 rfl) ?_
  refine tc_rg5 C0 hP (tc_use hN tw_629) dXR_flagWord_36 ?_
  refine lv_if_eq (tgt := 46) hx hb dXR_flagWord_39 (by decide) (fun hc => ?_) (fun hc => ?_)
  · have h := tc_ip hc h
    refine lv_iconst (v := 0) hx hb dXR_flagWord_46 (by decide) ?_
    exact w_XR_flagWord_47 C0 hJ h hP hS (lv_sub hl [0] rfl)
  · have h := tc_in hc h
    refine lv_iconst (v := 2) hx hb dXR_flagWord_42 (by decide) ?_
    refine lv_goto (tgt := 47) hx hb dXR_flagWord_43 (by decide) ?_
    exact w_XR_flagWord_47 C0 hJ h hP hS (lv_sub hl [0] rfl)
def m_XR_flagWord_21 (σ : tc_S) (k0 k1 : Int32) : Option (Int32 × tc_S) := (if (tc_gf σ 4) = 0 then (m_XR_flagWord_34 σ 0 (k1 + k0)) else (m_XR_flagWord_34 σ 4 (k1 + k0)))
set_option maxHeartbeats 4000000 in
set_option maxRecDepth 100000 in
theorem w_XR_flagWord_21 (C : tc_C p s m args meth c RXR cXR_flagWord 1 (some .int) D cA) (hJ : ∀ σ, va_D A (tc_rW ad cA σ)) {q : Int32 × tc_S} {σ : tc_S} {k0 k1 : Int32} {H : Heap} {locs : List Loc} {ls : Array Slot} (h : m_XR_flagWord_21 σ k0 k1 = some q) (hP : va_P D vwCl (tc_rW ad cA σ) H) (hS : va_S A s.heap H locs) (hl : lv_has ls 1 [(0, .ref (ad 0))]) : W p l e (tc_R 0) s m args below meth c H locs 0 0 (MQ below (tc_Qi D (tc_rW ad cA q.2) A q.1) args s 0 0 A) (F0 m 21 ls [.int k0, .int k1]) := by
  have C0 := C
  obtain ⟨hx, hb, hml, hown, ⟨hK, hN⟩, hr, hlk⟩ := C
  unfold m_XR_flagWord_21 at h
  refine lv_iadd hx hb dXR_flagWord_21 ?_
  refine lv_aload_n hx hb dXR_flagWord_22 rfl (lv_at hl 0 rfl) ?_
  refine tc_rg4 C0 hP (tc_use hN tw_628) dXR_flagWord_23 ?_
  refine lv_if_eq (tgt := 33) hx hb dXR_flagWord_26 (by decide) (fun hc => ?_) (fun hc => ?_)
  · have h := tc_ip hc h
    refine lv_iconst (v := 0) hx hb dXR_flagWord_33 (by decide) ?_
    exact w_XR_flagWord_34 C0 hJ h hP hS (lv_sub hl [0] rfl)
  · have h := tc_in hc h
    refine lv_iconst (v := 4) hx hb dXR_flagWord_29 (by decide) ?_
    refine lv_goto (tgt := 34) hx hb dXR_flagWord_30 (by decide) ?_
    exact w_XR_flagWord_34 C0 hJ h hP hS (lv_sub hl [0] rfl)
def m_XR_flagWord (σ : tc_S) : Option (Int32 × tc_S) := (if (tc_gf σ 3) = 0 then (m_XR_flagWord_21 σ 0 (256 * (tc_gf σ 2))) else (m_XR_flagWord_21 σ 8 (256 * (tc_gf σ 2))))
set_option maxHeartbeats 4000000 in
set_option maxRecDepth 100000 in
theorem w_XR_flagWord_0 (C : tc_C p s m args meth c RXR cXR_flagWord 1 (some .int) D cA) (hJ : ∀ σ, va_D A (tc_rW ad cA σ)) {q : Int32 × tc_S} {σ : tc_S} {H : Heap} {locs : List Loc} {ls : Array Slot} (h : m_XR_flagWord σ = some q) (hP : va_P D vwCl (tc_rW ad cA σ) H) (hS : va_S A s.heap H locs) (hl : lv_has ls 1 [(0, .ref (ad 0))]) : W p l e (tc_R 0) s m args below meth c H locs 0 0 (MQ below (tc_Qi D (tc_rW ad cA q.2) A q.1) args s 0 0 A) (F0 m 0 ls []) := by
  have C0 := C
  obtain ⟨hx, hb, hml, hown, ⟨hK, hN⟩, hr, hlk⟩ := C
  unfold m_XR_flagWord at h
  refine lv_sipush (v := 256) hx hb dXR_flagWord_0 (by decide) ?_
  refine lv_aload_n hx hb dXR_flagWord_3 rfl (lv_at hl 0 rfl) ?_
  refine tc_rg2 C0 hP (tc_use hN tw_626) dXR_flagWord_4 ?_
  refine lv_imul hx hb dXR_flagWord_7 ?_
  refine lv_aload_n hx hb dXR_flagWord_8 rfl (lv_at hl 0 rfl) ?_
  refine tc_rg3 C0 hP (tc_use hN tw_627) dXR_flagWord_9 ?_
  refine lv_if_eq (tgt := 20) hx hb dXR_flagWord_12 (by decide) (fun hc => ?_) (fun hc => ?_)
  · have h := tc_ip hc h
    refine lv_iconst (v := 0) hx hb dXR_flagWord_20 (by decide) ?_
    exact w_XR_flagWord_21 C0 hJ h hP hS (lv_sub hl [0] rfl)
  · have h := tc_in hc h
    refine lv_bipush (v := 8) hx hb dXR_flagWord_15 (by decide) ?_
    refine lv_goto (tgt := 21) hx hb dXR_flagWord_17 (by decide) ?_
    exact w_XR_flagWord_21 C0 hJ h hP hS (lv_sub hl [0] rfl)
theorem k_XR_flagWord (hJ : ∀ σ, va_D A (tc_rW ad cA σ)) {σ : tc_S} {q : Int32 × tc_S} (h : m_XR_flagWord σ = some q) : Met l yXR_flagWord [.code yXR_flagWord cXR_flagWord 1 (some .int)] (tc_R 0) (tc_Pc D cA (tc_rW ad cA σ) [.ref (ad 0)]) (tc_Qi D (tc_rW ad cA q.2) A q.1) 0 0 A :=
  tc_met (by decide) (Nat.le_of_ble_eq_true rfl) (fun _ _ _ _ _ _ _ C hP _ hl => w_XR_flagWord_0 C hJ h hP va_S.rf hl)
end WALK_R_10
