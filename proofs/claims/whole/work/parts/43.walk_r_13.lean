section WALK_R_13
variable {p : Program} {l : Launch} {e : Env} {s : State} {m : MethodId} {args : Array Value} {below : List Frame} {meth : Method} {c : Code} {D : va_G} {cA : ClassId} {A : Nat → Prop} {ad : Nat → Nat}
def m_XR_planePixel (σ : tc_S) (l1 l2 l3 : Int32) : Option (Int32 × tc_S) := ((m_XR_vramWord σ ((((l1 &&& 15) * 32) + ((l3 / 4) * 8)) + (l2 / 4))).bind (fun q20 => ((m_XR_patternPixel q20.2 q20.1 (l2 - l2 / 4 * 4) (l3 - l3 / 4 * 4)).bind (fun q29 => (some (q29.1, q29.2))))))
set_option maxHeartbeats 4000000 in
set_option maxRecDepth 100000 in
theorem w_XR_planePixel_0 (C : tc_C p s m args meth c RXR cXR_planePixel 4 (some .int) D cA) (hJ : ∀ σ, va_D A (tc_rW ad cA σ)) {q : Int32 × tc_S} {σ : tc_S} {l1 l2 l3 : Int32} {H : Heap} {locs : List Loc} {ls : Array Slot} (h : m_XR_planePixel σ l1 l2 l3 = some q) (hP : va_P D vwCl (tc_rW ad cA σ) H) (hS : va_S A s.heap H locs) (hl : lv_has ls 4 [(0, .ref (ad 0)), (1, .int l1), (2, .int l2), (3, .int l3)]) : W p l e (tc_R 2) s m args below meth c H locs 0 0 (MQ below (tc_Qi D (tc_rW ad cA q.2) A q.1) args s 0 0 A) (F0 m 0 ls []) := by
  have C0 := C
  obtain ⟨hx, hb, hml, hown, ⟨hK, hN⟩, hr, hlk⟩ := C
  unfold m_XR_planePixel at h
  refine lv_aload_n hx hb dXR_planePixel_0 rfl (lv_at hl 0 rfl) ?_
  refine lv_aload_n hx hb dXR_planePixel_1 rfl (lv_at hl 0 rfl) ?_
  refine lv_iload_n hx hb dXR_planePixel_2 rfl (lv_at hl 1 rfl) ?_
  refine lv_bipush (v := 15) hx hb dXR_planePixel_3 (by decide) ?_
  refine lv_iand hx hb dXR_planePixel_5 ?_
  refine lv_bipush (v := 32) hx hb dXR_planePixel_6 (by decide) ?_
  refine lv_imul hx hb dXR_planePixel_8 ?_
  refine lv_iload_n hx hb dXR_planePixel_9 rfl (lv_at hl 3 rfl) ?_
  refine lv_iconst (v := 4) hx hb dXR_planePixel_10 (by decide) ?_
  refine lv_idiv hx hb dXR_planePixel_11 (by decide) ?_
  refine lv_bipush (v := 8) hx hb dXR_planePixel_12 (by decide) ?_
  refine lv_imul hx hb dXR_planePixel_14 ?_
  refine lv_iadd hx hb dXR_planePixel_15 ?_
  refine lv_iload_n hx hb dXR_planePixel_16 rfl (lv_at hl 2 rfl) ?_
  refine lv_iconst (v := 4) hx hb dXR_planePixel_17 (by decide) ?_
  refine lv_idiv hx hb dXR_planePixel_18 (by decide) ?_
  refine lv_iadd hx hb dXR_planePixel_19 ?_
  obtain ⟨q20, e20, h⟩ := tc_bd_some h
  refine tc_cVi (As := [.int ((((l1 &&& 15) * 32) + ((l3 / 4) * 8)) + (l2 / 4))]) (rest := [.ref (ad 0)]) C0 (k_XR_vramWord hJ e20) tv_XR_135 (by decide) (by decide) hP hS hl 0 rfl rfl (Nat.le_of_ble_eq_true rfl) dXR_planePixel_20 rfl (fun H locs hP hS => ?_)
  refine lv_iload_n hx hb dXR_planePixel_23 rfl (lv_at hl 2 rfl) ?_
  refine lv_iconst (v := 4) hx hb dXR_planePixel_24 (by decide) ?_
  refine lv_irem hx hb dXR_planePixel_25 (by decide) ?_
  refine lv_iload_n hx hb dXR_planePixel_26 rfl (lv_at hl 3 rfl) ?_
  refine lv_iconst (v := 4) hx hb dXR_planePixel_27 (by decide) ?_
  refine lv_irem hx hb dXR_planePixel_28 (by decide) ?_
  obtain ⟨q29, e29, h⟩ := tc_bd_some h
  refine tc_cVi (As := [.int q20.1, .int (l2 - l2 / 4 * 4), .int (l3 - l3 / 4 * 4)]) (rest := []) C0 (k_XR_patternPixel hJ e29) tv_XR_283 (by decide) (by decide) hP hS hl 0 rfl rfl (Nat.le_of_ble_eq_true rfl) dXR_planePixel_29 rfl (fun H locs hP hS => ?_)
  exact tc_rri C0 hP hS h dXR_planePixel_32
theorem k_XR_planePixel (hJ : ∀ σ, va_D A (tc_rW ad cA σ)) {σ : tc_S} {l1 l2 l3 : Int32} {q : Int32 × tc_S} (h : m_XR_planePixel σ l1 l2 l3 = some q) : Met l yXR_planePixel [.code yXR_planePixel cXR_planePixel 4 (some .int)] (tc_R 2) (tc_Pc D cA (tc_rW ad cA σ) [.ref (ad 0), .int l1, .int l2, .int l3]) (tc_Qi D (tc_rW ad cA q.2) A q.1) 0 0 A :=
  tc_met (by decide) (Nat.le_of_ble_eq_true rfl) (fun _ _ _ _ _ _ _ C hP _ hl => w_XR_planePixel_0 C hJ h hP va_S.rf hl)
def m_XR_plane_50 (σ : tc_S) (l1 l2 l3 : Int32) : Option (Int32 × tc_S) := (tc_gd 13 16 ((m_XR_vramWord σ ((((tc_ga σ 5 13) &&& 31) * 16) + l1)).bind (fun q66 => (tc_gd l1 2 ((m_XR_planePixel q66.2 l3 ((l2 - q66.1) &&& 31) (((tc_gf q66.2 27) + (tc_ga q66.2 4 l1)) &&& 15)).bind (fun q94 => (some (q94.1, q94.2))))))))
set_option maxHeartbeats 4000000 in
set_option maxRecDepth 100000 in
theorem w_XR_plane_50 (C : tc_C p s m args meth c RXR cXR_plane 5 (some .int) D cA) (hJ : ∀ σ, va_D A (tc_rW ad cA σ)) {q : Int32 × tc_S} {σ : tc_S} {l1 l2 l3 : Int32} {H : Heap} {locs : List Loc} {ls : Array Slot} (h : m_XR_plane_50 σ l1 l2 l3 = some q) (hP : va_P D vwCl (tc_rW ad cA σ) H) (hS : va_S A s.heap H locs) (hl : lv_has ls 5 [(0, .ref (ad 0)), (1, .int l1), (2, .int l2), (3, .int l3)]) : W p l e (tc_R 3) s m args below meth c H locs 0 0 (MQ below (tc_Qi D (tc_rW ad cA q.2) A q.1) args s 0 0 A) (F0 m 50 ls []) := by
  have C0 := C
  obtain ⟨hx, hb, hml, hown, ⟨hK, hN⟩, hr, hlk⟩ := C
  unfold m_XR_plane_50 at h
  refine lv_aload_n hx hb dXR_plane_50 rfl (lv_at hl 0 rfl) ?_
  refine lv_aload_n hx hb dXR_plane_51 rfl (lv_at hl 0 rfl) ?_
  refine tc_rr_XR_regs C0 hP (tc_use hN tw_653) dXR_plane_52 ?_
  refine lv_bipush (v := 13) hx hb dXR_plane_55 (by decide) ?_
  obtain ⟨hi, h⟩ := tc_gd_some h
  refine tc_rld8 C0 hP hi dXR_plane_57 ?_
  refine lv_bipush (v := 31) hx hb dXR_plane_58 (by decide) ?_
  refine lv_iand hx hb dXR_plane_60 ?_
  refine lv_bipush (v := 16) hx hb dXR_plane_61 (by decide) ?_
  refine lv_imul hx hb dXR_plane_63 ?_
  refine lv_iload_n hx hb dXR_plane_64 rfl (lv_at hl 1 rfl) ?_
  refine lv_iadd hx hb dXR_plane_65 ?_
  obtain ⟨q66, e66, h⟩ := tc_bd_some h
  refine tc_cVi (As := [.int ((((tc_ga σ 5 13) &&& 31) * 16) + l1)]) (rest := []) C0 (k_XR_vramWord hJ e66) tv_XR_135 (by decide) (by decide) hP hS hl 0 rfl rfl (Nat.le_of_ble_eq_true rfl) dXR_plane_66 rfl (fun H locs hP hS => ?_)
  refine lv_istore (lv' := [(4, .int q66.1), (0, .ref (ad 0)), (1, .int l1), (2, .int l2), (3, .int l3)]) hx hb dXR_plane_69 hl (by decide) rfl (fun ls hl => ?_)
  refine lv_aload_n hx hb dXR_plane_71 rfl (lv_at hl 1 rfl) ?_
  refine lv_iload_n hx hb dXR_plane_72 rfl (lv_at hl 4 rfl) ?_
  refine lv_iload_n hx hb dXR_plane_73 rfl (lv_at hl 3 rfl) ?_
  refine lv_iload hx hb dXR_plane_74 (lv_at hl 0 rfl) ?_
  refine lv_isub hx hb dXR_plane_76 ?_
  refine lv_bipush (v := 31) hx hb dXR_plane_77 (by decide) ?_
  refine lv_iand hx hb dXR_plane_79 ?_
  refine lv_aload_n hx hb dXR_plane_80 rfl (lv_at hl 1 rfl) ?_
  refine tc_rg27 C0 hP (tc_use hN tw_662) dXR_plane_81 ?_
  refine lv_aload_n hx hb dXR_plane_84 rfl (lv_at hl 1 rfl) ?_
  refine tc_rr_XR_vsram C0 hP (tc_use hN tw_652) dXR_plane_85 ?_
  refine lv_iload_n hx hb dXR_plane_88 rfl (lv_at hl 2 rfl) ?_
  obtain ⟨hi, h⟩ := tc_gd_some h
  refine tc_rld7 C0 hP hi dXR_plane_89 ?_
  refine lv_iadd hx hb dXR_plane_90 ?_
  refine lv_bipush (v := 15) hx hb dXR_plane_91 (by decide) ?_
  refine lv_iand hx hb dXR_plane_93 ?_
  obtain ⟨q94, e94, h⟩ := tc_bd_some h
  refine tc_cVi (As := [.int l3, .int ((l2 - q66.1) &&& 31), .int (((tc_gf q66.2 27) + (tc_ga q66.2 4 l1)) &&& 15)]) (rest := []) C0 (k_XR_planePixel hJ e94) tv_XR_287 (by decide) (by decide) hP hS hl 0 rfl rfl (Nat.le_of_ble_eq_true rfl) dXR_plane_94 rfl (fun H locs hP hS => ?_)
  exact tc_rri C0 hP hS h dXR_plane_97
def m_XR_plane_19 (σ : tc_S) (l1 l2 k0 : Int32) : Option (Int32 × tc_S) := (if l1 = 0 then (tc_gd 3 16 (if ((tc_ga σ 5 3) &&& 7) ≤ (l2 / 4) then (m_XR_plane_50 σ l1 l2 k0) else ((m_XR_planePixel σ k0 l2 (tc_gf σ 27)).bind (fun q46 => (some (q46.1, q46.2)))))) else (m_XR_plane_50 σ l1 l2 k0))
set_option maxHeartbeats 4000000 in
set_option maxRecDepth 100000 in
theorem w_XR_plane_19 (C : tc_C p s m args meth c RXR cXR_plane 5 (some .int) D cA) (hJ : ∀ σ, va_D A (tc_rW ad cA σ)) {q : Int32 × tc_S} {σ : tc_S} {l1 l2 k0 : Int32} {H : Heap} {locs : List Loc} {ls : Array Slot} (h : m_XR_plane_19 σ l1 l2 k0 = some q) (hP : va_P D vwCl (tc_rW ad cA σ) H) (hS : va_S A s.heap H locs) (hl : lv_has ls 5 [(0, .ref (ad 0)), (1, .int l1), (2, .int l2)]) : W p l e (tc_R 3) s m args below meth c H locs 0 0 (MQ below (tc_Qi D (tc_rW ad cA q.2) A q.1) args s 0 0 A) (F0 m 19 ls [.int k0]) := by
  have C0 := C
  obtain ⟨hx, hb, hml, hown, ⟨hK, hN⟩, hr, hlk⟩ := C
  unfold m_XR_plane_19 at h
  refine lv_istore_n (lv' := [(3, .int k0), (0, .ref (ad 0)), (1, .int l1), (2, .int l2)]) hx hb dXR_plane_19 rfl hl (by decide) rfl (fun ls hl => ?_)
  refine lv_iload_n hx hb dXR_plane_20 rfl (lv_at hl 2 rfl) ?_
  refine lv_if_ne (tgt := 50) hx hb dXR_plane_21 (by decide) (fun hc => ?_) (fun hc => ?_)
  · have h := tc_in hc h
    exact w_XR_plane_50 C0 hJ h hP hS (lv_sub hl [1, 2, 3, 0] rfl)
  · have h := tc_ip hc h
    refine lv_iload_n hx hb dXR_plane_24 rfl (lv_at hl 3 rfl) ?_
    refine lv_iconst (v := 4) hx hb dXR_plane_25 (by decide) ?_
    refine lv_idiv hx hb dXR_plane_26 (by decide) ?_
    refine lv_aload_n hx hb dXR_plane_27 rfl (lv_at hl 1 rfl) ?_
    refine tc_rr_XR_regs C0 hP (tc_use hN tw_653) dXR_plane_28 ?_
    refine lv_iconst (v := 3) hx hb dXR_plane_31 (by decide) ?_
    obtain ⟨hi, h⟩ := tc_gd_some h
    refine tc_rld8 C0 hP hi dXR_plane_32 ?_
    refine lv_bipush (v := 7) hx hb dXR_plane_33 (by decide) ?_
    refine lv_iand hx hb dXR_plane_35 ?_
    refine lv_icmp_ge (tgt := 50) hx hb dXR_plane_36 (by decide) (fun hc => ?_) (fun hc => ?_)
    · have h := tc_ip hc h
      exact w_XR_plane_50 C0 hJ h hP hS (lv_sub hl [1, 2, 3, 0] rfl)
    · have h := tc_in hc h
      refine lv_aload_n hx hb dXR_plane_39 rfl (lv_at hl 1 rfl) ?_
      refine lv_iload_n hx hb dXR_plane_40 rfl (lv_at hl 0 rfl) ?_
      refine lv_iload_n hx hb dXR_plane_41 rfl (lv_at hl 3 rfl) ?_
      refine lv_aload_n hx hb dXR_plane_42 rfl (lv_at hl 1 rfl) ?_
      refine tc_rg27 C0 hP (tc_use hN tw_662) dXR_plane_43 ?_
      obtain ⟨q46, e46, h⟩ := tc_bd_some h
      refine tc_cVi (As := [.int k0, .int l2, .int (tc_gf σ 27)]) (rest := []) C0 (k_XR_planePixel hJ e46) tv_XR_287 (by decide) (by decide) hP hS hl 0 rfl rfl (Nat.le_of_ble_eq_true rfl) dXR_plane_46 rfl (fun H locs hP hS => ?_)
      exact tc_rri C0 hP hS h dXR_plane_49
def m_XR_plane (σ : tc_S) (l1 l2 : Int32) : Option (Int32 × tc_S) := (if l1 = 0 then (tc_gd 2 16 (m_XR_plane_19 σ l1 l2 (tc_ga σ 5 2))) else (tc_gd 4 16 (m_XR_plane_19 σ l1 l2 (tc_ga σ 5 4))))
set_option maxHeartbeats 4000000 in
set_option maxRecDepth 100000 in
theorem w_XR_plane_0 (C : tc_C p s m args meth c RXR cXR_plane 5 (some .int) D cA) (hJ : ∀ σ, va_D A (tc_rW ad cA σ)) {q : Int32 × tc_S} {σ : tc_S} {l1 l2 : Int32} {H : Heap} {locs : List Loc} {ls : Array Slot} (h : m_XR_plane σ l1 l2 = some q) (hP : va_P D vwCl (tc_rW ad cA σ) H) (hS : va_S A s.heap H locs) (hl : lv_has ls 5 [(0, .ref (ad 0)), (1, .int l1), (2, .int l2)]) : W p l e (tc_R 3) s m args below meth c H locs 0 0 (MQ below (tc_Qi D (tc_rW ad cA q.2) A q.1) args s 0 0 A) (F0 m 0 ls []) := by
  have C0 := C
  obtain ⟨hx, hb, hml, hown, ⟨hK, hN⟩, hr, hlk⟩ := C
  unfold m_XR_plane at h
  refine lv_iload_n hx hb dXR_plane_0 rfl (lv_at hl 1 rfl) ?_
  refine lv_if_ne (tgt := 13) hx hb dXR_plane_1 (by decide) (fun hc => ?_) (fun hc => ?_)
  · have h := tc_in hc h
    refine lv_aload_n hx hb dXR_plane_13 rfl (lv_at hl 0 rfl) ?_
    refine tc_rr_XR_regs C0 hP (tc_use hN tw_653) dXR_plane_14 ?_
    refine lv_iconst (v := 4) hx hb dXR_plane_17 (by decide) ?_
    obtain ⟨hi, h⟩ := tc_gd_some h
    refine tc_rld8 C0 hP hi dXR_plane_18 ?_
    exact w_XR_plane_19 C0 hJ h hP hS (lv_sub hl [0, 1, 2] rfl)
  · have h := tc_ip hc h
    refine lv_aload_n hx hb dXR_plane_4 rfl (lv_at hl 0 rfl) ?_
    refine tc_rr_XR_regs C0 hP (tc_use hN tw_653) dXR_plane_5 ?_
    refine lv_iconst (v := 2) hx hb dXR_plane_8 (by decide) ?_
    obtain ⟨hi, h⟩ := tc_gd_some h
    refine tc_rld8 C0 hP hi dXR_plane_9 ?_
    refine lv_goto (tgt := 19) hx hb dXR_plane_10 (by decide) ?_
    exact w_XR_plane_19 C0 hJ h hP hS (lv_sub hl [0, 1, 2] rfl)
theorem k_XR_plane (hJ : ∀ σ, va_D A (tc_rW ad cA σ)) {σ : tc_S} {l1 l2 : Int32} {q : Int32 × tc_S} (h : m_XR_plane σ l1 l2 = some q) : Met l yXR_plane [.code yXR_plane cXR_plane 5 (some .int)] (tc_R 3) (tc_Pc D cA (tc_rW ad cA σ) [.ref (ad 0), .int l1, .int l2]) (tc_Qi D (tc_rW ad cA q.2) A q.1) 0 0 A :=
  tc_met (by decide) (Nat.le_of_ble_eq_true rfl) (fun _ _ _ _ _ _ _ C hP _ hl => w_XR_plane_0 C hJ h hP va_S.rf hl)
def m_XR_takeSprites_144 (σ : tc_S) : Option (tc_S) := (some σ)
set_option maxHeartbeats 4000000 in
set_option maxRecDepth 100000 in
theorem w_XR_takeSprites_144 (C : tc_C p s m args meth c RXR cXR_takeSprites 6 none D cA) (hJ : ∀ σ, va_D A (tc_rW ad cA σ)) {q : tc_S} {σ : tc_S} {H : Heap} {locs : List Loc} {ls : Array Slot} (h : m_XR_takeSprites_144 σ = some q) (hP : va_P D vwCl (tc_rW ad cA σ) H) (hS : va_S A s.heap H locs) (hl : lv_has ls 6 []) : W p l e (tc_R 2) s m args below meth c H locs 0 0 (MQ below (tc_Qv D (tc_rW ad cA q) A) args s 0 0 A) (F0 m 144 ls []) := by
  have C0 := C
  obtain ⟨hx, hb, hml, hown, ⟨hK, hN⟩, hr, hlk⟩ := C
  unfold m_XR_takeSprites_144 at h
  exact tc_rrv C0 hP hS h dXR_takeSprites_144
def m_XR_takeSprites_137 (Z : tc_S → Int32 → Int32 → Int32 → Int32 → Option (tc_S)) (σ : tc_S) (l1 l2 l4 k0 : Int32) : Option (tc_S) := (Z σ l1 l2 k0 (l4 + 1))
set_option maxHeartbeats 4000000 in
set_option maxRecDepth 100000 in
theorem w_XR_takeSprites_137 (C : tc_C p s m args meth c RXR cXR_takeSprites 6 none D cA) (hJ : ∀ σ, va_D A (tc_rW ad cA σ)) {q : tc_S} {Z : tc_S → Int32 → Int32 → Int32 → Int32 → Option (tc_S)} (hZ : ∀ {σ : tc_S} {l1 l2 l3 l4 : Int32} {H : Heap} {locs : List Loc} {ls : Array Slot}, Z σ l1 l2 l3 l4 = some q → va_P D vwCl (tc_rW ad cA σ) H → va_S A s.heap H locs → lv_has ls 6 [(0, .ref (ad 0)), (1, .int l1), (2, .int l2), (3, .int l3), (4, .int l4)] → W p l e (tc_R 2) s m args below meth c H locs 0 0 (MQ below (tc_Qv D (tc_rW ad cA q) A) args s 0 0 A) (F0 m 14 ls [])) {σ : tc_S} {l1 l2 l4 k0 : Int32} {H : Heap} {locs : List Loc} {ls : Array Slot} (h : m_XR_takeSprites_137 Z σ l1 l2 l4 k0 = some q) (hP : va_P D vwCl (tc_rW ad cA σ) H) (hS : va_S A s.heap H locs) (hl : lv_has ls 6 [(0, .ref (ad 0)), (1, .int l1), (2, .int l2), (4, .int l4)]) : W p l e (tc_R 2) s m args below meth c H locs 0 0 (MQ below (tc_Qv D (tc_rW ad cA q) A) args s 0 0 A) (F0 m 137 ls [.int k0]) := by
  have C0 := C
  obtain ⟨hx, hb, hml, hown, ⟨hK, hN⟩, hr, hlk⟩ := C
  unfold m_XR_takeSprites_137 at h
  refine lv_istore_n (lv' := [(3, .int k0), (0, .ref (ad 0)), (1, .int l1), (2, .int l2), (4, .int l4)]) hx hb dXR_takeSprites_137 rfl hl (by decide) rfl (fun ls hl => ?_)
  refine lv_iinc (k := 4) (v := (l4 + 1)) (lv' := [(4, .int (l4 + 1)), (3, .int k0), (0, .ref (ad 0)), (1, .int l1), (2, .int l2)]) hx hb dXR_takeSprites_138 hl rfl rfl (by decide) rfl (fun ls hl => ?_)
  refine lv_goto (tgt := 14) hx hb dXR_takeSprites_141 (by decide) ?_
  exact hZ h hP hS (lv_sub hl [2, 3, 4, 1, 0] rfl)
def m_XR_takeSprites_136 (Z : tc_S → Int32 → Int32 → Int32 → Int32 → Option (tc_S)) (σ : tc_S) (l1 l2 l4 : Int32) : Option (tc_S) := (m_XR_takeSprites_137 Z σ l1 l2 l4 0)
set_option maxHeartbeats 4000000 in
set_option maxRecDepth 100000 in
theorem w_XR_takeSprites_136 (C : tc_C p s m args meth c RXR cXR_takeSprites 6 none D cA) (hJ : ∀ σ, va_D A (tc_rW ad cA σ)) {q : tc_S} {Z : tc_S → Int32 → Int32 → Int32 → Int32 → Option (tc_S)} (hZ : ∀ {σ : tc_S} {l1 l2 l3 l4 : Int32} {H : Heap} {locs : List Loc} {ls : Array Slot}, Z σ l1 l2 l3 l4 = some q → va_P D vwCl (tc_rW ad cA σ) H → va_S A s.heap H locs → lv_has ls 6 [(0, .ref (ad 0)), (1, .int l1), (2, .int l2), (3, .int l3), (4, .int l4)] → W p l e (tc_R 2) s m args below meth c H locs 0 0 (MQ below (tc_Qv D (tc_rW ad cA q) A) args s 0 0 A) (F0 m 14 ls [])) {σ : tc_S} {l1 l2 l4 : Int32} {H : Heap} {locs : List Loc} {ls : Array Slot} (h : m_XR_takeSprites_136 Z σ l1 l2 l4 = some q) (hP : va_P D vwCl (tc_rW ad cA σ) H) (hS : va_S A s.heap H locs) (hl : lv_has ls 6 [(0, .ref (ad 0)), (1, .int l1), (2, .int l2), (4, .int l4)]) : W p l e (tc_R 2) s m args below meth c H locs 0 0 (MQ below (tc_Qv D (tc_rW ad cA q) A) args s 0 0 A) (F0 m 136 ls []) := by
  have C0 := C
  obtain ⟨hx, hb, hml, hown, ⟨hK, hN⟩, hr, hlk⟩ := C
  unfold m_XR_takeSprites_136 at h
  refine lv_iconst (v := 0) hx hb dXR_takeSprites_136 (by decide) ?_
  exact w_XR_takeSprites_137 C0 hJ hZ h hP hS (lv_sub hl [0, 1, 2, 3] rfl)
def m_XR_takeSprites_114 (Z : tc_S → Int32 → Int32 → Int32 → Int32 → Option (tc_S)) (σ : tc_S) (l1 l2 l3 l4 : Int32) : Option (tc_S) := ((m_XR_spriteWord σ l2 1).bind (fun q117 => (if l3 = 0 then (m_XR_takeSprites_136 Z q117.2 l1 (q117.1 &&& 7) l4) else (if (q117.1 &&& 7) = 0 then (m_XR_takeSprites_136 Z q117.2 l1 (q117.1 &&& 7) l4) else (m_XR_takeSprites_137 Z q117.2 l1 (q117.1 &&& 7) l4 1)))))
set_option maxHeartbeats 4000000 in
set_option maxRecDepth 100000 in
theorem w_XR_takeSprites_114 (C : tc_C p s m args meth c RXR cXR_takeSprites 6 none D cA) (hJ : ∀ σ, va_D A (tc_rW ad cA σ)) {q : tc_S} {Z : tc_S → Int32 → Int32 → Int32 → Int32 → Option (tc_S)} (hZ : ∀ {σ : tc_S} {l1 l2 l3 l4 : Int32} {H : Heap} {locs : List Loc} {ls : Array Slot}, Z σ l1 l2 l3 l4 = some q → va_P D vwCl (tc_rW ad cA σ) H → va_S A s.heap H locs → lv_has ls 6 [(0, .ref (ad 0)), (1, .int l1), (2, .int l2), (3, .int l3), (4, .int l4)] → W p l e (tc_R 2) s m args below meth c H locs 0 0 (MQ below (tc_Qv D (tc_rW ad cA q) A) args s 0 0 A) (F0 m 14 ls [])) {σ : tc_S} {l1 l2 l3 l4 : Int32} {H : Heap} {locs : List Loc} {ls : Array Slot} (h : m_XR_takeSprites_114 Z σ l1 l2 l3 l4 = some q) (hP : va_P D vwCl (tc_rW ad cA σ) H) (hS : va_S A s.heap H locs) (hl : lv_has ls 6 [(0, .ref (ad 0)), (1, .int l1), (2, .int l2), (3, .int l3), (4, .int l4)]) : W p l e (tc_R 2) s m args below meth c H locs 0 0 (MQ below (tc_Qv D (tc_rW ad cA q) A) args s 0 0 A) (F0 m 114 ls []) := by
  have C0 := C
  obtain ⟨hx, hb, hml, hown, ⟨hK, hN⟩, hr, hlk⟩ := C
  unfold m_XR_takeSprites_114 at h
  refine lv_aload_n hx hb dXR_takeSprites_114 rfl (lv_at hl 0 rfl) ?_
  refine lv_iload_n hx hb dXR_takeSprites_115 rfl (lv_at hl 2 rfl) ?_
  refine lv_iconst (v := 1) hx hb dXR_takeSprites_116 (by decide) ?_
  obtain ⟨q117, e117, h⟩ := tc_bd_some h
  refine tc_cVi (As := [.int l2, .int 1]) (rest := []) C0 (k_XR_spriteWord hJ e117) tv_XR_293 (by decide) (by decide) hP hS hl 0 rfl rfl (Nat.le_of_ble_eq_true rfl) dXR_takeSprites_117 rfl (fun H locs hP hS => ?_)
  refine lv_bipush (v := 7) hx hb dXR_takeSprites_120 (by decide) ?_
  refine lv_iand hx hb dXR_takeSprites_122 ?_
  refine lv_istore_n (lv' := [(2, .int (q117.1 &&& 7)), (0, .ref (ad 0)), (1, .int l1), (3, .int l3), (4, .int l4)]) hx hb dXR_takeSprites_123 rfl hl (by decide) rfl (fun ls hl => ?_)
  refine lv_iload_n hx hb dXR_takeSprites_124 rfl (lv_at hl 3 rfl) ?_
  refine lv_if_eq (tgt := 136) hx hb dXR_takeSprites_125 (by decide) (fun hc => ?_) (fun hc => ?_)
  · have h := tc_ip hc h
    exact w_XR_takeSprites_136 C0 hJ hZ h hP hS (lv_sub hl [1, 2, 0, 4] rfl)
  · have h := tc_in hc h
    refine lv_iload_n hx hb dXR_takeSprites_128 rfl (lv_at hl 0 rfl) ?_
    refine lv_if_eq (tgt := 136) hx hb dXR_takeSprites_129 (by decide) (fun hc => ?_) (fun hc => ?_)
    · have h := tc_ip hc h
      exact w_XR_takeSprites_136 C0 hJ hZ h hP hS (lv_sub hl [1, 2, 0, 4] rfl)
    · have h := tc_in hc h
      refine lv_iconst (v := 1) hx hb dXR_takeSprites_132 (by decide) ?_
      refine lv_goto (tgt := 137) hx hb dXR_takeSprites_133 (by decide) ?_
      exact w_XR_takeSprites_137 C0 hJ hZ h hP hS (lv_sub hl [1, 2, 0, 4] rfl)
def m_XR_takeSprites_91 (Z : tc_S → Int32 → Int32 → Int32 → Int32 → Option (tc_S)) (σ : tc_S) (l1 l2 l3 l4 : Int32) : Option (tc_S) := (tc_gd (tc_gf σ 36) 3 (m_XR_takeSprites_114 Z (tc_sf (tc_sa σ 12 (tc_gf σ 36) l2) 36 ((tc_gf (tc_sa σ 12 (tc_gf σ 36) l2) 36) + 1)) (l1 + 1) l2 l3 l4))
set_option maxHeartbeats 4000000 in
set_option maxRecDepth 100000 in
theorem w_XR_takeSprites_91 (C : tc_C p s m args meth c RXR cXR_takeSprites 6 none D cA) (hJ : ∀ σ, va_D A (tc_rW ad cA σ)) {q : tc_S} {Z : tc_S → Int32 → Int32 → Int32 → Int32 → Option (tc_S)} (hZ : ∀ {σ : tc_S} {l1 l2 l3 l4 : Int32} {H : Heap} {locs : List Loc} {ls : Array Slot}, Z σ l1 l2 l3 l4 = some q → va_P D vwCl (tc_rW ad cA σ) H → va_S A s.heap H locs → lv_has ls 6 [(0, .ref (ad 0)), (1, .int l1), (2, .int l2), (3, .int l3), (4, .int l4)] → W p l e (tc_R 2) s m args below meth c H locs 0 0 (MQ below (tc_Qv D (tc_rW ad cA q) A) args s 0 0 A) (F0 m 14 ls [])) {σ : tc_S} {l1 l2 l3 l4 : Int32} {H : Heap} {locs : List Loc} {ls : Array Slot} (h : m_XR_takeSprites_91 Z σ l1 l2 l3 l4 = some q) (hP : va_P D vwCl (tc_rW ad cA σ) H) (hS : va_S A s.heap H locs) (hl : lv_has ls 6 [(0, .ref (ad 0)), (1, .int l1), (2, .int l2), (3, .int l3), (4, .int l4)]) : W p l e (tc_R 2) s m args below meth c H locs 0 0 (MQ below (tc_Qv D (tc_rW ad cA q) A) args s 0 0 A) (F0 m 91 ls []) := by
  have C0 := C
  obtain ⟨hx, hb, hml, hown, ⟨hK, hN⟩, hr, hlk⟩ := C
  unfold m_XR_takeSprites_91 at h
  refine lv_aload_n hx hb dXR_takeSprites_91 rfl (lv_at hl 0 rfl) ?_
  refine tc_rr_XR_sprite C0 hP (tc_use hN tw_667) dXR_takeSprites_92 ?_
  refine lv_aload_n hx hb dXR_takeSprites_95 rfl (lv_at hl 0 rfl) ?_
  refine tc_rg36 C0 hP (tc_use hN tw_666) dXR_takeSprites_96 ?_
  refine lv_iload_n hx hb dXR_takeSprites_99 rfl (lv_at hl 2 rfl) ?_
  obtain ⟨hi, h⟩ := tc_gd_some h
  refine tc_rst10 C0 hJ hP hS hi dXR_takeSprites_100 (fun H locs hP hS => ?_)
  refine lv_aload_n hx hb dXR_takeSprites_101 rfl (lv_at hl 0 rfl) ?_
  refine lv_dup hx hb dXR_takeSprites_102 rfl ?_
  refine tc_rg36 C0 hP (tc_use hN tw_666) dXR_takeSprites_103 ?_
  refine lv_iconst (v := 1) hx hb dXR_takeSprites_106 (by decide) ?_
  refine lv_iadd hx hb dXR_takeSprites_107 ?_
  refine tc_rp36 C0 hJ hP hS (tc_use hN tw_666) dXR_takeSprites_108 (fun H locs hP hS => ?_)
  refine lv_iinc (k := 1) (v := (l1 + 1)) (lv' := [(1, .int (l1 + 1)), (0, .ref (ad 0)), (2, .int l2), (3, .int l3), (4, .int l4)]) hx hb dXR_takeSprites_111 hl rfl rfl (by decide) rfl (fun ls hl => ?_)
  exact w_XR_takeSprites_114 C0 hJ hZ h hP hS (lv_sub hl [1, 0, 2, 3, 4] rfl)
def m_XR_takeSprites_14 : Nat → tc_S → Int32 → Int32 → Int32 → Int32 → Option (tc_S)
  | 0, _, _, _, _, _ => none
  | n + 1, σ, l1, l2, l3, l4 => (if 8 ≤ l4 then (m_XR_takeSprites_144 σ) else (if l3 = 0 then (m_XR_takeSprites_144 σ) else ((m_XR_spriteWord σ l2 0).bind (fun q35 => (if (((tc_gf σ 27) + 16) - (q35.1 &&& 63)) < 0 then (m_XR_takeSprites_114 (m_XR_takeSprites_14 n) q35.2 l1 l2 l3 l4) else (if 4 ≤ (((tc_gf σ 27) + 16) - (q35.1 &&& 63)) then (m_XR_takeSprites_114 (m_XR_takeSprites_14 n) q35.2 l1 l2 l3 l4) else (if l1 = 3 then (m_XR_takeSprites_114 (m_XR_takeSprites_14 n) (tc_sf q35.2 26 1) l1 l2 0 l4) else ((m_XR_spriteWord q35.2 l2 3).bind (fun q73 => (if (q73.1 &&& 63) = 0 then (if l1 ≤ 0 then (m_XR_takeSprites_91 (m_XR_takeSprites_14 n) q73.2 l1 l2 l3 l4) else (m_XR_takeSprites_114 (m_XR_takeSprites_14 n) q73.2 l1 l2 0 l4)) else (m_XR_takeSprites_91 (m_XR_takeSprites_14 n) q73.2 l1 l2 l3 l4)))))))))))
set_option maxHeartbeats 4000000 in
set_option maxRecDepth 100000 in
theorem w_XR_takeSprites_14 (C : tc_C p s m args meth c RXR cXR_takeSprites 6 none D cA) (hJ : ∀ σ, va_D A (tc_rW ad cA σ)) {q : tc_S} : ∀ (n : Nat) {σ : tc_S} {l1 l2 l3 l4 : Int32} {H : Heap} {locs : List Loc} {ls : Array Slot} (h : m_XR_takeSprites_14 n σ l1 l2 l3 l4 = some q) (hP : va_P D vwCl (tc_rW ad cA σ) H) (hS : va_S A s.heap H locs) (hl : lv_has ls 6 [(0, .ref (ad 0)), (1, .int l1), (2, .int l2), (3, .int l3), (4, .int l4)]), W p l e (tc_R 2) s m args below meth c H locs 0 0 (MQ below (tc_Qv D (tc_rW ad cA q) A) args s 0 0 A) (F0 m 14 ls []) := by
  have C0 := C
  obtain ⟨hx, hb, hml, hown, ⟨hK, hN⟩, hr, hlk⟩ := C
  intro n
  induction n with
  | zero =>
    intro σ l1 l2 l3 l4 H locs ls h hP hS hl
    exact absurd h (by simp [m_XR_takeSprites_14])
  | succ n ih =>
    intro σ l1 l2 l3 l4 H locs ls h hP hS hl
    unfold m_XR_takeSprites_14 at h
    refine lv_iload hx hb dXR_takeSprites_14 (lv_at hl 4 rfl) ?_
    refine lv_bipush (v := 8) hx hb dXR_takeSprites_16 (by decide) ?_
    refine lv_icmp_ge (tgt := 144) hx hb dXR_takeSprites_18 (by decide) (fun hc => ?_) (fun hc => ?_)
    · have h := tc_ip hc h
      exact w_XR_takeSprites_144 C0 hJ h hP hS (lv_sub hl [] rfl)
    · have h := tc_in hc h
      refine lv_iload_n hx hb dXR_takeSprites_21 rfl (lv_at hl 3 rfl) ?_
      refine lv_if_eq (tgt := 144) hx hb dXR_takeSprites_22 (by decide) (fun hc => ?_) (fun hc => ?_)
      · have h := tc_ip hc h
        exact w_XR_takeSprites_144 C0 hJ h hP hS (lv_sub hl [] rfl)
      · have h := tc_in hc h
        refine lv_aload_n hx hb dXR_takeSprites_25 rfl (lv_at hl 0 rfl) ?_
        refine tc_rg27 C0 hP (tc_use hN tw_662) dXR_takeSprites_26 ?_
        refine lv_bipush (v := 16) hx hb dXR_takeSprites_29 (by decide) ?_
        refine lv_iadd hx hb dXR_takeSprites_31 ?_
        refine lv_aload_n hx hb dXR_takeSprites_32 rfl (lv_at hl 0 rfl) ?_
        refine lv_iload_n hx hb dXR_takeSprites_33 rfl (lv_at hl 2 rfl) ?_
        refine lv_iconst (v := 0) hx hb dXR_takeSprites_34 (by decide) ?_
        obtain ⟨q35, e35, h⟩ := tc_bd_some h
        refine tc_cVi (As := [.int l2, .int 0]) (rest := [.int ((tc_gf σ 27) + 16)]) C0 (k_XR_spriteWord hJ e35) tv_XR_293 (by decide) (by decide) hP hS hl 0 rfl rfl (Nat.le_of_ble_eq_true rfl) dXR_takeSprites_35 rfl (fun H locs hP hS => ?_)
        refine lv_bipush (v := 63) hx hb dXR_takeSprites_38 (by decide) ?_
        refine lv_iand hx hb dXR_takeSprites_40 ?_
        refine lv_isub hx hb dXR_takeSprites_41 ?_
        refine lv_istore (lv' := [(5, .int (((tc_gf σ 27) + 16) - (q35.1 &&& 63))), (0, .ref (ad 0)), (1, .int l1), (2, .int l2), (3, .int l3), (4, .int l4)]) hx hb dXR_takeSprites_42 hl (by decide) rfl (fun ls hl => ?_)
        refine lv_iload hx hb dXR_takeSprites_44 (lv_at hl 0 rfl) ?_
        refine lv_if_lt (tgt := 114) hx hb dXR_takeSprites_46 (by decide) (fun hc => ?_) (fun hc => ?_)
        · have h := tc_ip hc h
          exact w_XR_takeSprites_114 C0 hJ (fun h hP hS hl => ih h hP hS hl) h hP hS (lv_sub hl [1, 2, 3, 4, 5] rfl)
        · have h := tc_in hc h
          refine lv_iload hx hb dXR_takeSprites_49 (lv_at hl 0 rfl) ?_
          refine lv_iconst (v := 4) hx hb dXR_takeSprites_51 (by decide) ?_
          refine lv_icmp_ge (tgt := 114) hx hb dXR_takeSprites_52 (by decide) (fun hc => ?_) (fun hc => ?_)
          · have h := tc_ip hc h
            exact w_XR_takeSprites_114 C0 hJ (fun h hP hS hl => ih h hP hS hl) h hP hS (lv_sub hl [1, 2, 3, 4, 5] rfl)
          · have h := tc_in hc h
            refine lv_iload_n hx hb dXR_takeSprites_55 rfl (lv_at hl 2 rfl) ?_
            refine lv_iconst (v := 3) hx hb dXR_takeSprites_56 (by decide) ?_
            refine lv_icmp_ne (tgt := 70) hx hb dXR_takeSprites_57 (by decide) (fun hc => ?_) (fun hc => ?_)
            · have h := tc_in hc h
              refine lv_aload_n hx hb dXR_takeSprites_70 rfl (lv_at hl 1 rfl) ?_
              refine lv_iload_n hx hb dXR_takeSprites_71 rfl (lv_at hl 3 rfl) ?_
              refine lv_iconst (v := 3) hx hb dXR_takeSprites_72 (by decide) ?_
              obtain ⟨q73, e73, h⟩ := tc_bd_some h
              refine tc_cVi (As := [.int l2, .int 3]) (rest := []) C0 (k_XR_spriteWord hJ e73) tv_XR_293 (by decide) (by decide) hP hS hl 0 rfl rfl (Nat.le_of_ble_eq_true rfl) dXR_takeSprites_73 rfl (fun H locs hP hS => ?_)
              refine lv_bipush (v := 63) hx hb dXR_takeSprites_76 (by decide) ?_
              refine lv_iand hx hb dXR_takeSprites_78 ?_
              refine lv_if_ne (tgt := 91) hx hb dXR_takeSprites_79 (by decide) (fun hc => ?_) (fun hc => ?_)
              · have h := tc_in hc h
                exact w_XR_takeSprites_91 C0 hJ (fun h hP hS hl => ih h hP hS hl) h hP hS (lv_sub hl [1, 2, 3, 4, 5] rfl)
              · have h := tc_ip hc h
                refine lv_iload_n hx hb dXR_takeSprites_82 rfl (lv_at hl 2 rfl) ?_
                refine lv_if_le (tgt := 91) hx hb dXR_takeSprites_83 (by decide) (fun hc => ?_) (fun hc => ?_)
                · have h := tc_ip hc h
                  exact w_XR_takeSprites_91 C0 hJ (fun h hP hS hl => ih h hP hS hl) h hP hS (lv_sub hl [1, 2, 3, 4, 5] rfl)
                · have h := tc_in hc h
                  refine lv_iconst (v := 0) hx hb dXR_takeSprites_86 (by decide) ?_
                  refine lv_istore_n (lv' := [(3, .int 0), (5, .int (((tc_gf σ 27) + 16) - (q35.1 &&& 63))), (0, .ref (ad 0)), (1, .int l1), (2, .int l2), (4, .int l4)]) hx hb dXR_takeSprites_87 rfl hl (by decide) rfl (fun ls hl => ?_)
                  refine lv_goto (tgt := 114) hx hb dXR_takeSprites_88 (by decide) ?_
                  exact w_XR_takeSprites_114 C0 hJ (fun h hP hS hl => ih h hP hS hl) h hP hS (lv_sub hl [2, 3, 4, 0, 5] rfl)
            · have h := tc_ip hc h
              refine lv_aload_n hx hb dXR_takeSprites_60 rfl (lv_at hl 1 rfl) ?_
              refine lv_iconst (v := 1) hx hb dXR_takeSprites_61 (by decide) ?_
              refine tc_rp26 C0 hJ hP hS (tc_use hN tw_661) ⟨by decide, by decide⟩ dXR_takeSprites_62 (fun H locs hP hS => ?_)
              refine lv_iconst (v := 0) hx hb dXR_takeSprites_65 (by decide) ?_
              refine lv_istore_n (lv' := [(3, .int 0), (5, .int (((tc_gf σ 27) + 16) - (q35.1 &&& 63))), (0, .ref (ad 0)), (1, .int l1), (2, .int l2), (4, .int l4)]) hx hb dXR_takeSprites_66 rfl hl (by decide) rfl (fun ls hl => ?_)
              refine lv_goto (tgt := 114) hx hb dXR_takeSprites_67 (by decide) ?_
              exact w_XR_takeSprites_114 C0 hJ (fun h hP hS hl => ih h hP hS hl) h hP hS (lv_sub hl [2, 3, 4, 0, 5] rfl)
def m_XR_takeSprites (σ : tc_S) : Option (tc_S) := (m_XR_takeSprites_14 2000 (tc_sf σ 36 0) 0 0 1 0)
set_option maxHeartbeats 4000000 in
set_option maxRecDepth 100000 in
theorem w_XR_takeSprites_0 (C : tc_C p s m args meth c RXR cXR_takeSprites 6 none D cA) (hJ : ∀ σ, va_D A (tc_rW ad cA σ)) {q : tc_S} {σ : tc_S} {H : Heap} {locs : List Loc} {ls : Array Slot} (h : m_XR_takeSprites σ = some q) (hP : va_P D vwCl (tc_rW ad cA σ) H) (hS : va_S A s.heap H locs) (hl : lv_has ls 6 [(0, .ref (ad 0))]) : W p l e (tc_R 2) s m args below meth c H locs 0 0 (MQ below (tc_Qv D (tc_rW ad cA q) A) args s 0 0 A) (F0 m 0 ls []) := by
  have C0 := C
  obtain ⟨hx, hb, hml, hown, ⟨hK, hN⟩, hr, hlk⟩ := C
  unfold m_XR_takeSprites at h
  refine lv_aload_n hx hb dXR_takeSprites_0 rfl (lv_at hl 0 rfl) ?_
  refine lv_iconst (v := 0) hx hb dXR_takeSprites_1 (by decide) ?_
  refine tc_rp36 C0 hJ hP hS (tc_use hN tw_666) dXR_takeSprites_2 (fun H locs hP hS => ?_)
  refine lv_iconst (v := 0) hx hb dXR_takeSprites_5 (by decide) ?_
  refine lv_istore_n (lv' := [(1, .int 0), (0, .ref (ad 0))]) hx hb dXR_takeSprites_6 rfl hl (by decide) rfl (fun ls hl => ?_)
  refine lv_iconst (v := 0) hx hb dXR_takeSprites_7 (by decide) ?_
  refine lv_istore_n (lv' := [(2, .int 0), (1, .int 0), (0, .ref (ad 0))]) hx hb dXR_takeSprites_8 rfl hl (by decide) rfl (fun ls hl => ?_)
  refine lv_iconst (v := 1) hx hb dXR_takeSprites_9 (by decide) ?_
  refine lv_istore_n (lv' := [(3, .int 1), (2, .int 0), (1, .int 0), (0, .ref (ad 0))]) hx hb dXR_takeSprites_10 rfl hl (by decide) rfl (fun ls hl => ?_)
  refine lv_iconst (v := 0) hx hb dXR_takeSprites_11 (by decide) ?_
  refine lv_istore (lv' := [(4, .int 0), (3, .int 1), (2, .int 0), (1, .int 0), (0, .ref (ad 0))]) hx hb dXR_takeSprites_12 hl (by decide) rfl (fun ls hl => ?_)
  exact w_XR_takeSprites_14 C0 hJ _ h hP hS (lv_sub hl [4, 3, 2, 1, 0] rfl)
theorem k_XR_takeSprites (hJ : ∀ σ, va_D A (tc_rW ad cA σ)) {σ : tc_S} {q : tc_S} (h : m_XR_takeSprites σ = some q) : Met l yXR_takeSprites [.code yXR_takeSprites cXR_takeSprites 6 none] (tc_R 2) (tc_Pc D cA (tc_rW ad cA σ) [.ref (ad 0)]) (tc_Qv D (tc_rW ad cA q) A) 0 0 A :=
  tc_met (by decide) (Nat.le_of_ble_eq_true rfl) (fun _ _ _ _ _ _ _ C hP _ hl => w_XR_takeSprites_0 C hJ h hP va_S.rf hl)
def m_XR_draw_147 (Z : tc_S → Int32 → Int32 → Option (tc_S)) (σ : tc_S) (l1 l2 l3 : Int32) : Option (tc_S) := (tc_gd ((16 * (tc_gf σ 27)) + l2) 128 (Z (tc_sa σ 6 ((16 * (tc_gf σ 27)) + l2) l3) l1 (l2 + 1)))
set_option maxHeartbeats 4000000 in
set_option maxRecDepth 100000 in
theorem w_XR_draw_147 (C : tc_C p s m args meth c RXR cXR_draw 8 none D cA) (hJ : ∀ σ, va_D A (tc_rW ad cA σ)) {q : tc_S} {Z : tc_S → Int32 → Int32 → Option (tc_S)} (hZ : ∀ {σ : tc_S} {l1 l2 : Int32} {H : Heap} {locs : List Loc} {ls : Array Slot}, Z σ l1 l2 = some q → va_P D vwCl (tc_rW ad cA σ) H → va_S A s.heap H locs → lv_has ls 8 [(0, .ref (ad 0)), (1, .int l1), (2, .int l2)] → W p l e (tc_R 4) s m args below meth c H locs 0 0 (MQ below (tc_Qv D (tc_rW ad cA q) A) args s 0 0 A) (F0 m 28 ls [])) {σ : tc_S} {l1 l2 l3 : Int32} {H : Heap} {locs : List Loc} {ls : Array Slot} (h : m_XR_draw_147 Z σ l1 l2 l3 = some q) (hP : va_P D vwCl (tc_rW ad cA σ) H) (hS : va_S A s.heap H locs) (hl : lv_has ls 8 [(0, .ref (ad 0)), (1, .int l1), (2, .int l2), (3, .int l3)]) : W p l e (tc_R 4) s m args below meth c H locs 0 0 (MQ below (tc_Qv D (tc_rW ad cA q) A) args s 0 0 A) (F0 m 147 ls []) := by
  have C0 := C
  obtain ⟨hx, hb, hml, hown, ⟨hK, hN⟩, hr, hlk⟩ := C
  unfold m_XR_draw_147 at h
  refine lv_aload_n hx hb dXR_draw_147 rfl (lv_at hl 0 rfl) ?_
  refine tc_rr_XR_pixels C0 hP (tc_use hN tw_665) dXR_draw_148 ?_
  refine lv_bipush (v := 16) hx hb dXR_draw_151 (by decide) ?_
  refine lv_aload_n hx hb dXR_draw_153 rfl (lv_at hl 0 rfl) ?_
  refine tc_rg27 C0 hP (tc_use hN tw_662) dXR_draw_154 ?_
  refine lv_imul hx hb dXR_draw_157 ?_
  refine lv_iload_n hx hb dXR_draw_158 rfl (lv_at hl 2 rfl) ?_
  refine lv_iadd hx hb dXR_draw_159 ?_
  refine lv_iload_n hx hb dXR_draw_160 rfl (lv_at hl 3 rfl) ?_
  obtain ⟨hi, h⟩ := tc_gd_some h
  refine tc_rst9 C0 hJ hP hS hi dXR_draw_161 (fun H locs hP hS => ?_)
  refine lv_iinc (k := 2) (v := (l2 + 1)) (lv' := [(2, .int (l2 + 1)), (0, .ref (ad 0)), (1, .int l1), (3, .int l3)]) hx hb dXR_draw_162 hl rfl rfl (by decide) rfl (fun ls hl => ?_)
  refine lv_goto (tgt := 28) hx hb dXR_draw_165 (by decide) ?_
  exact hZ h hP hS (lv_sub hl [1, 2, 0] rfl)
def m_XR_draw_146 (Z : tc_S → Int32 → Int32 → Option (tc_S)) (σ : tc_S) (l1 l2 k0 : Int32) : Option (tc_S) := (m_XR_draw_147 Z σ l1 l2 k0)
set_option maxHeartbeats 4000000 in
set_option maxRecDepth 100000 in
theorem w_XR_draw_146 (C : tc_C p s m args meth c RXR cXR_draw 8 none D cA) (hJ : ∀ σ, va_D A (tc_rW ad cA σ)) {q : tc_S} {Z : tc_S → Int32 → Int32 → Option (tc_S)} (hZ : ∀ {σ : tc_S} {l1 l2 : Int32} {H : Heap} {locs : List Loc} {ls : Array Slot}, Z σ l1 l2 = some q → va_P D vwCl (tc_rW ad cA σ) H → va_S A s.heap H locs → lv_has ls 8 [(0, .ref (ad 0)), (1, .int l1), (2, .int l2)] → W p l e (tc_R 4) s m args below meth c H locs 0 0 (MQ below (tc_Qv D (tc_rW ad cA q) A) args s 0 0 A) (F0 m 28 ls [])) {σ : tc_S} {l1 l2 k0 : Int32} {H : Heap} {locs : List Loc} {ls : Array Slot} (h : m_XR_draw_146 Z σ l1 l2 k0 = some q) (hP : va_P D vwCl (tc_rW ad cA σ) H) (hS : va_S A s.heap H locs) (hl : lv_has ls 8 [(0, .ref (ad 0)), (1, .int l1), (2, .int l2)]) : W p l e (tc_R 4) s m args below meth c H locs 0 0 (MQ below (tc_Qv D (tc_rW ad cA q) A) args s 0 0 A) (F0 m 146 ls [.int k0]) := by
  have C0 := C
  obtain ⟨hx, hb, hml, hown, ⟨hK, hN⟩, hr, hlk⟩ := C
  unfold m_XR_draw_146 at h
  refine lv_istore_n (lv' := [(3, .int k0), (0, .ref (ad 0)), (1, .int l1), (2, .int l2)]) hx hb dXR_draw_146 rfl hl (by decide) rfl (fun ls hl => ?_)
  exact w_XR_draw_147 C0 hJ hZ h hP hS (lv_sub hl [1, 2, 3, 0] rfl)
def m_XR_draw_130 (Z : tc_S → Int32 → Int32 → Option (tc_S)) (σ : tc_S) (l1 l2 l3 k0 : Int32) : Option (tc_S) := (if k0 ≤ 0 then (m_XR_draw_146 Z σ l1 l2 l3) else (m_XR_draw_146 Z σ l1 l2 (k0 &&& 15)))
set_option maxHeartbeats 4000000 in
set_option maxRecDepth 100000 in
theorem w_XR_draw_130 (C : tc_C p s m args meth c RXR cXR_draw 8 none D cA) (hJ : ∀ σ, va_D A (tc_rW ad cA σ)) {q : tc_S} {Z : tc_S → Int32 → Int32 → Option (tc_S)} (hZ : ∀ {σ : tc_S} {l1 l2 : Int32} {H : Heap} {locs : List Loc} {ls : Array Slot}, Z σ l1 l2 = some q → va_P D vwCl (tc_rW ad cA σ) H → va_S A s.heap H locs → lv_has ls 8 [(0, .ref (ad 0)), (1, .int l1), (2, .int l2)] → W p l e (tc_R 4) s m args below meth c H locs 0 0 (MQ below (tc_Qv D (tc_rW ad cA q) A) args s 0 0 A) (F0 m 28 ls [])) {σ : tc_S} {l1 l2 l3 k0 : Int32} {H : Heap} {locs : List Loc} {ls : Array Slot} (h : m_XR_draw_130 Z σ l1 l2 l3 k0 = some q) (hP : va_P D vwCl (tc_rW ad cA σ) H) (hS : va_S A s.heap H locs) (hl : lv_has ls 8 [(0, .ref (ad 0)), (1, .int l1), (2, .int l2), (3, .int l3)]) : W p l e (tc_R 4) s m args below meth c H locs 0 0 (MQ below (tc_Qv D (tc_rW ad cA q) A) args s 0 0 A) (F0 m 130 ls [.int k0]) := by
  have C0 := C
  obtain ⟨hx, hb, hml, hown, ⟨hK, hN⟩, hr, hlk⟩ := C
  unfold m_XR_draw_130 at h
  refine lv_istore (lv' := [(7, .int k0), (0, .ref (ad 0)), (1, .int l1), (2, .int l2), (3, .int l3)]) hx hb dXR_draw_130 hl (by decide) rfl (fun ls hl => ?_)
  refine lv_iload hx hb dXR_draw_132 (lv_at hl 0 rfl) ?_
  refine lv_if_le (tgt := 145) hx hb dXR_draw_134 (by decide) (fun hc => ?_) (fun hc => ?_)
  · have h := tc_ip hc h
    refine lv_iload_n hx hb dXR_draw_145 rfl (lv_at hl 4 rfl) ?_
    exact w_XR_draw_146 C0 hJ hZ h hP hS (lv_sub hl [1, 2, 3] rfl)
  · have h := tc_in hc h
    refine lv_iload hx hb dXR_draw_137 (lv_at hl 0 rfl) ?_
    refine lv_bipush (v := 15) hx hb dXR_draw_139 (by decide) ?_
    refine lv_iand hx hb dXR_draw_141 ?_
    refine lv_goto (tgt := 146) hx hb dXR_draw_142 (by decide) ?_
    exact w_XR_draw_146 C0 hJ hZ h hP hS (lv_sub hl [1, 2, 3] rfl)
def m_XR_draw_28 : Nat → tc_S → Int32 → Int32 → Option (tc_S)
  | 0, _, _, _ => none
  | n + 1, σ, l1, l2 => (if 16 ≤ l2 then (some σ) else (tc_gd 7 16 (if l1 = 0 then (m_XR_draw_147 (m_XR_draw_28 n) σ l1 l2 ((tc_ga σ 5 7) &&& 15)) else ((m_XR_spriteAt σ l2).bind (fun q51 => ((m_XR_plane q51.2 0 l2).bind (fun q59 => ((m_XR_plane q59.2 1 l2).bind (fun q67 => (if q51.1 ≤ 15 then (if q59.1 ≤ 15 then (if q67.1 ≤ 15 then (if q51.1 ≤ 0 then (if q59.1 ≤ 0 then (m_XR_draw_130 (m_XR_draw_28 n) q67.2 l1 l2 ((tc_ga σ 5 7) &&& 15) q67.1) else (m_XR_draw_130 (m_XR_draw_28 n) q67.2 l1 l2 ((tc_ga σ 5 7) &&& 15) q59.1)) else (m_XR_draw_130 (m_XR_draw_28 n) q67.2 l1 l2 ((tc_ga σ 5 7) &&& 15) q51.1)) else (m_XR_draw_130 (m_XR_draw_28 n) q67.2 l1 l2 ((tc_ga σ 5 7) &&& 15) q67.1)) else (m_XR_draw_130 (m_XR_draw_28 n) q67.2 l1 l2 ((tc_ga σ 5 7) &&& 15) q59.1)) else (m_XR_draw_130 (m_XR_draw_28 n) q67.2 l1 l2 ((tc_ga σ 5 7) &&& 15) q51.1)))))))))))
set_option maxHeartbeats 4000000 in
set_option maxRecDepth 100000 in
theorem w_XR_draw_28 (C : tc_C p s m args meth c RXR cXR_draw 8 none D cA) (hJ : ∀ σ, va_D A (tc_rW ad cA σ)) {q : tc_S} : ∀ (n : Nat) {σ : tc_S} {l1 l2 : Int32} {H : Heap} {locs : List Loc} {ls : Array Slot} (h : m_XR_draw_28 n σ l1 l2 = some q) (hP : va_P D vwCl (tc_rW ad cA σ) H) (hS : va_S A s.heap H locs) (hl : lv_has ls 8 [(0, .ref (ad 0)), (1, .int l1), (2, .int l2)]), W p l e (tc_R 4) s m args below meth c H locs 0 0 (MQ below (tc_Qv D (tc_rW ad cA q) A) args s 0 0 A) (F0 m 28 ls []) := by
  have C0 := C
  obtain ⟨hx, hb, hml, hown, ⟨hK, hN⟩, hr, hlk⟩ := C
  intro n
  induction n with
  | zero =>
    intro σ l1 l2 H locs ls h hP hS hl
    exact absurd h (by simp [m_XR_draw_28])
  | succ n ih =>
    intro σ l1 l2 H locs ls h hP hS hl
    unfold m_XR_draw_28 at h
    refine lv_iload_n hx hb dXR_draw_28 rfl (lv_at hl 2 rfl) ?_
    refine lv_bipush (v := 16) hx hb dXR_draw_29 (by decide) ?_
    refine lv_icmp_ge (tgt := 168) hx hb dXR_draw_31 (by decide) (fun hc => ?_) (fun hc => ?_)
    · have h := tc_ip hc h
      exact tc_rrv C0 hP hS h dXR_draw_168
    · have h := tc_in hc h
      refine lv_aload_n hx hb dXR_draw_34 rfl (lv_at hl 0 rfl) ?_
      refine tc_rr_XR_regs C0 hP (tc_use hN tw_653) dXR_draw_35 ?_
      refine lv_bipush (v := 7) hx hb dXR_draw_38 (by decide) ?_
      obtain ⟨hi, h⟩ := tc_gd_some h
      refine tc_rld8 C0 hP hi dXR_draw_40 ?_
      refine lv_bipush (v := 15) hx hb dXR_draw_41 (by decide) ?_
      refine lv_iand hx hb dXR_draw_43 ?_
      refine lv_istore_n (lv' := [(3, .int ((tc_ga σ 5 7) &&& 15)), (0, .ref (ad 0)), (1, .int l1), (2, .int l2)]) hx hb dXR_draw_44 rfl hl (by decide) rfl (fun ls hl => ?_)
      refine lv_iload_n hx hb dXR_draw_45 rfl (lv_at hl 2 rfl) ?_
      refine lv_if_eq (tgt := 147) hx hb dXR_draw_46 (by decide) (fun hc => ?_) (fun hc => ?_)
      · have h := tc_ip hc h
        exact w_XR_draw_147 C0 hJ (fun h hP hS hl => ih h hP hS hl) h hP hS (lv_sub hl [1, 2, 3, 0] rfl)
      · have h := tc_in hc h
        refine lv_aload_n hx hb dXR_draw_49 rfl (lv_at hl 1 rfl) ?_
        refine lv_iload_n hx hb dXR_draw_50 rfl (lv_at hl 3 rfl) ?_
        obtain ⟨q51, e51, h⟩ := tc_bd_some h
        refine tc_cVi (As := [.int l2]) (rest := []) C0 (k_XR_spriteAt hJ e51) tv_XR_303 (by decide) (by decide) hP hS hl 0 rfl rfl (Nat.le_of_ble_eq_true rfl) dXR_draw_51 rfl (fun H locs hP hS => ?_)
        refine lv_istore (lv' := [(4, .int q51.1), (3, .int ((tc_ga σ 5 7) &&& 15)), (0, .ref (ad 0)), (1, .int l1), (2, .int l2)]) hx hb dXR_draw_54 hl (by decide) rfl (fun ls hl => ?_)
        refine lv_aload_n hx hb dXR_draw_56 rfl (lv_at hl 2 rfl) ?_
        refine lv_iconst (v := 0) hx hb dXR_draw_57 (by decide) ?_
        refine lv_iload_n hx hb dXR_draw_58 rfl (lv_at hl 4 rfl) ?_
        obtain ⟨q59, e59, h⟩ := tc_bd_some h
        refine tc_cVi (As := [.int 0, .int l2]) (rest := []) C0 (k_XR_plane hJ e59) tv_XR_306 (by decide) (by decide) hP hS hl 0 rfl rfl (Nat.le_of_ble_eq_true rfl) dXR_draw_59 rfl (fun H locs hP hS => ?_)
        refine lv_istore (lv' := [(5, .int q59.1), (4, .int q51.1), (3, .int ((tc_ga σ 5 7) &&& 15)), (0, .ref (ad 0)), (1, .int l1), (2, .int l2)]) hx hb dXR_draw_62 hl (by decide) rfl (fun ls hl => ?_)
        refine lv_aload_n hx hb dXR_draw_64 rfl (lv_at hl 3 rfl) ?_
        refine lv_iconst (v := 1) hx hb dXR_draw_65 (by decide) ?_
        refine lv_iload_n hx hb dXR_draw_66 rfl (lv_at hl 5 rfl) ?_
        obtain ⟨q67, e67, h⟩ := tc_bd_some h
        refine tc_cVi (As := [.int 1, .int l2]) (rest := []) C0 (k_XR_plane hJ e67) tv_XR_306 (by decide) (by decide) hP hS hl 0 rfl rfl (Nat.le_of_ble_eq_true rfl) dXR_draw_67 rfl (fun H locs hP hS => ?_)
        refine lv_istore (lv' := [(6, .int q67.1), (5, .int q59.1), (4, .int q51.1), (3, .int ((tc_ga σ 5 7) &&& 15)), (0, .ref (ad 0)), (1, .int l1), (2, .int l2)]) hx hb dXR_draw_70 hl (by decide) rfl (fun ls hl => ?_)
        refine lv_iload hx hb dXR_draw_72 (lv_at hl 2 rfl) ?_
        refine lv_bipush (v := 15) hx hb dXR_draw_74 (by decide) ?_
        refine lv_icmp_le (tgt := 84) hx hb dXR_draw_76 (by decide) (fun hc => ?_) (fun hc => ?_)
        · have h := tc_ip hc h
          refine lv_iload hx hb dXR_draw_84 (lv_at hl 1 rfl) ?_
          refine lv_bipush (v := 15) hx hb dXR_draw_86 (by decide) ?_
          refine lv_icmp_le (tgt := 96) hx hb dXR_draw_88 (by decide) (fun hc => ?_) (fun hc => ?_)
          · have h := tc_ip hc h
            refine lv_iload hx hb dXR_draw_96 (lv_at hl 0 rfl) ?_
            refine lv_bipush (v := 15) hx hb dXR_draw_98 (by decide) ?_
            refine lv_icmp_le (tgt := 108) hx hb dXR_draw_100 (by decide) (fun hc => ?_) (fun hc => ?_)
            · have h := tc_ip hc h
              refine lv_iload hx hb dXR_draw_108 (lv_at hl 2 rfl) ?_
              refine lv_if_le (tgt := 118) hx hb dXR_draw_110 (by decide) (fun hc => ?_) (fun hc => ?_)
              · have h := tc_ip hc h
                refine lv_iload hx hb dXR_draw_118 (lv_at hl 1 rfl) ?_
                refine lv_if_le (tgt := 128) hx hb dXR_draw_120 (by decide) (fun hc => ?_) (fun hc => ?_)
                · have h := tc_ip hc h
                  refine lv_iload hx hb dXR_draw_128 (lv_at hl 0 rfl) ?_
                  exact w_XR_draw_130 C0 hJ (fun h hP hS hl => ih h hP hS hl) h hP hS (lv_sub hl [4, 5, 6, 3] rfl)
                · have h := tc_in hc h
                  refine lv_iload hx hb dXR_draw_123 (lv_at hl 1 rfl) ?_
                  refine lv_goto (tgt := 130) hx hb dXR_draw_125 (by decide) ?_
                  exact w_XR_draw_130 C0 hJ (fun h hP hS hl => ih h hP hS hl) h hP hS (lv_sub hl [4, 5, 6, 3] rfl)
              · have h := tc_in hc h
                refine lv_iload hx hb dXR_draw_113 (lv_at hl 2 rfl) ?_
                refine lv_goto (tgt := 130) hx hb dXR_draw_115 (by decide) ?_
                exact w_XR_draw_130 C0 hJ (fun h hP hS hl => ih h hP hS hl) h hP hS (lv_sub hl [4, 5, 6, 3] rfl)
            · have h := tc_in hc h
              refine lv_iload hx hb dXR_draw_103 (lv_at hl 0 rfl) ?_
              refine lv_goto (tgt := 130) hx hb dXR_draw_105 (by decide) ?_
              exact w_XR_draw_130 C0 hJ (fun h hP hS hl => ih h hP hS hl) h hP hS (lv_sub hl [4, 5, 6, 3] rfl)
          · have h := tc_in hc h
            refine lv_iload hx hb dXR_draw_91 (lv_at hl 1 rfl) ?_
            refine lv_goto (tgt := 130) hx hb dXR_draw_93 (by decide) ?_
            exact w_XR_draw_130 C0 hJ (fun h hP hS hl => ih h hP hS hl) h hP hS (lv_sub hl [4, 5, 6, 3] rfl)
        · have h := tc_in hc h
          refine lv_iload hx hb dXR_draw_79 (lv_at hl 2 rfl) ?_
          refine lv_goto (tgt := 130) hx hb dXR_draw_81 (by decide) ?_
          exact w_XR_draw_130 C0 hJ (fun h hP hS hl => ih h hP hS hl) h hP hS (lv_sub hl [4, 5, 6, 3] rfl)
def m_XR_draw_26 (σ : tc_S) (l1 : Int32) : Option (tc_S) := (m_XR_draw_28 2000 σ l1 0)
set_option maxHeartbeats 4000000 in
set_option maxRecDepth 100000 in
theorem w_XR_draw_26 (C : tc_C p s m args meth c RXR cXR_draw 8 none D cA) (hJ : ∀ σ, va_D A (tc_rW ad cA σ)) {q : tc_S} {σ : tc_S} {l1 : Int32} {H : Heap} {locs : List Loc} {ls : Array Slot} (h : m_XR_draw_26 σ l1 = some q) (hP : va_P D vwCl (tc_rW ad cA σ) H) (hS : va_S A s.heap H locs) (hl : lv_has ls 8 [(0, .ref (ad 0)), (1, .int l1)]) : W p l e (tc_R 4) s m args below meth c H locs 0 0 (MQ below (tc_Qv D (tc_rW ad cA q) A) args s 0 0 A) (F0 m 26 ls []) := by
  have C0 := C
  obtain ⟨hx, hb, hml, hown, ⟨hK, hN⟩, hr, hlk⟩ := C
  unfold m_XR_draw_26 at h
  refine lv_iconst (v := 0) hx hb dXR_draw_26 (by decide) ?_
  refine lv_istore_n (lv' := [(2, .int 0), (0, .ref (ad 0)), (1, .int l1)]) hx hb dXR_draw_27 rfl hl (by decide) rfl (fun ls hl => ?_)
  exact w_XR_draw_28 C0 hJ _ h hP hS (lv_sub hl [1, 2, 0] rfl)
def m_XR_draw_17 (σ : tc_S) (k0 : Int32) : Option (tc_S) := (if k0 = 0 then (m_XR_draw_26 σ k0) else ((m_XR_takeSprites σ).bind (fun q23 => (m_XR_draw_26 q23 k0))))
set_option maxHeartbeats 4000000 in
set_option maxRecDepth 100000 in
theorem w_XR_draw_17 (C : tc_C p s m args meth c RXR cXR_draw 8 none D cA) (hJ : ∀ σ, va_D A (tc_rW ad cA σ)) {q : tc_S} {σ : tc_S} {k0 : Int32} {H : Heap} {locs : List Loc} {ls : Array Slot} (h : m_XR_draw_17 σ k0 = some q) (hP : va_P D vwCl (tc_rW ad cA σ) H) (hS : va_S A s.heap H locs) (hl : lv_has ls 8 [(0, .ref (ad 0))]) : W p l e (tc_R 4) s m args below meth c H locs 0 0 (MQ below (tc_Qv D (tc_rW ad cA q) A) args s 0 0 A) (F0 m 17 ls [.int k0]) := by
  have C0 := C
  obtain ⟨hx, hb, hml, hown, ⟨hK, hN⟩, hr, hlk⟩ := C
  unfold m_XR_draw_17 at h
  refine lv_istore_n (lv' := [(1, .int k0), (0, .ref (ad 0))]) hx hb dXR_draw_17 rfl hl (by decide) rfl (fun ls hl => ?_)
  refine lv_iload_n hx hb dXR_draw_18 rfl (lv_at hl 0 rfl) ?_
  refine lv_if_eq (tgt := 26) hx hb dXR_draw_19 (by decide) (fun hc => ?_) (fun hc => ?_)
  · have h := tc_ip hc h
    exact w_XR_draw_26 C0 hJ h hP hS (lv_sub hl [1, 0] rfl)
  · have h := tc_in hc h
    refine lv_aload_n hx hb dXR_draw_22 rfl (lv_at hl 1 rfl) ?_
    obtain ⟨q23, e23, h⟩ := tc_bd_some h
    refine tc_cVv (As := []) (rest := []) C0 (k_XR_takeSprites hJ e23) tv_XR_300 (by decide) (by decide) hP hS hl 0 rfl rfl (Nat.le_of_ble_eq_true rfl) dXR_draw_23 rfl (fun H locs hP hS => ?_)
    exact w_XR_draw_26 C0 hJ h hP hS (lv_sub hl [1, 0] rfl)
def m_XR_draw (σ : tc_S) : Option (tc_S) := (tc_gd 1 16 (if ((tc_ga σ 5 1) &&& 64) = 0 then (m_XR_draw_17 σ 0) else (m_XR_draw_17 σ 1)))
set_option maxHeartbeats 4000000 in
set_option maxRecDepth 100000 in
theorem w_XR_draw_0 (C : tc_C p s m args meth c RXR cXR_draw 8 none D cA) (hJ : ∀ σ, va_D A (tc_rW ad cA σ)) {q : tc_S} {σ : tc_S} {H : Heap} {locs : List Loc} {ls : Array Slot} (h : m_XR_draw σ = some q) (hP : va_P D vwCl (tc_rW ad cA σ) H) (hS : va_S A s.heap H locs) (hl : lv_has ls 8 [(0, .ref (ad 0))]) : W p l e (tc_R 4) s m args below meth c H locs 0 0 (MQ below (tc_Qv D (tc_rW ad cA q) A) args s 0 0 A) (F0 m 0 ls []) := by
  have C0 := C
  obtain ⟨hx, hb, hml, hown, ⟨hK, hN⟩, hr, hlk⟩ := C
  unfold m_XR_draw at h
  refine lv_aload_n hx hb dXR_draw_0 rfl (lv_at hl 0 rfl) ?_
  refine tc_rr_XR_regs C0 hP (tc_use hN tw_653) dXR_draw_1 ?_
  refine lv_iconst (v := 1) hx hb dXR_draw_4 (by decide) ?_
  obtain ⟨hi, h⟩ := tc_gd_some h
  refine tc_rld8 C0 hP hi dXR_draw_5 ?_
  refine lv_bipush (v := 64) hx hb dXR_draw_6 (by decide) ?_
  refine lv_iand hx hb dXR_draw_8 ?_
  refine lv_if_eq (tgt := 16) hx hb dXR_draw_9 (by decide) (fun hc => ?_) (fun hc => ?_)
  · have h := tc_ip hc h
    refine lv_iconst (v := 0) hx hb dXR_draw_16 (by decide) ?_
    exact w_XR_draw_17 C0 hJ h hP hS (lv_sub hl [0] rfl)
  · have h := tc_in hc h
    refine lv_iconst (v := 1) hx hb dXR_draw_12 (by decide) ?_
    refine lv_goto (tgt := 17) hx hb dXR_draw_13 (by decide) ?_
    exact w_XR_draw_17 C0 hJ h hP hS (lv_sub hl [0] rfl)
theorem k_XR_draw (hJ : ∀ σ, va_D A (tc_rW ad cA σ)) {σ : tc_S} {q : tc_S} (h : m_XR_draw σ = some q) : Met l yXR_draw [.code yXR_draw cXR_draw 8 none] (tc_R 4) (tc_Pc D cA (tc_rW ad cA σ) [.ref (ad 0)]) (tc_Qv D (tc_rW ad cA q) A) 0 0 A :=
  tc_met (by decide) (Nat.le_of_ble_eq_true rfl) (fun _ _ _ _ _ _ _ C hP _ hl => w_XR_draw_0 C hJ h hP va_S.rf hl)
def m_XR_beginLine_125 (σ : tc_S) : Option (tc_S) := (some σ)
set_option maxHeartbeats 4000000 in
set_option maxRecDepth 100000 in
theorem w_XR_beginLine_125 (C : tc_C p s m args meth c RXR cXR_beginLine 1 none D cA) (hJ : ∀ σ, va_D A (tc_rW ad cA σ)) {q : tc_S} {σ : tc_S} {H : Heap} {locs : List Loc} {ls : Array Slot} (h : m_XR_beginLine_125 σ = some q) (hP : va_P D vwCl (tc_rW ad cA σ) H) (hS : va_S A s.heap H locs) (hl : lv_has ls 1 []) : W p l e (tc_R 5) s m args below meth c H locs 0 0 (MQ below (tc_Qv D (tc_rW ad cA q) A) args s 0 0 A) (F0 m 125 ls []) := by
  have C0 := C
  obtain ⟨hx, hb, hml, hown, ⟨hK, hN⟩, hr, hlk⟩ := C
  unfold m_XR_beginLine_125 at h
  exact tc_rrv C0 hP hS h dXR_beginLine_125
def m_XR_beginLine_118 (σ : tc_S) (k0 : Int32) : Option (tc_S) := (tc_gb k0 ((m_XR_tellSecond (tc_sf σ 31 k0)).bind (fun q122 => (m_XR_beginLine_125 q122))))
set_option maxHeartbeats 4000000 in
set_option maxRecDepth 100000 in
theorem w_XR_beginLine_118 (C : tc_C p s m args meth c RXR cXR_beginLine 1 none D cA) (hJ : ∀ σ, va_D A (tc_rW ad cA σ)) {q : tc_S} {σ : tc_S} {k0 : Int32} {H : Heap} {locs : List Loc} {ls : Array Slot} (h : m_XR_beginLine_118 σ k0 = some q) (hP : va_P D vwCl (tc_rW ad cA σ) H) (hS : va_S A s.heap H locs) (hl : lv_has ls 1 [(0, .ref (ad 0))]) : W p l e (tc_R 5) s m args below meth c H locs 0 0 (MQ below (tc_Qv D (tc_rW ad cA q) A) args s 0 0 A) (F0 m 118 ls [.int k0, .ref (ad 0)]) := by
  have C0 := C
  obtain ⟨hx, hb, hml, hown, ⟨hK, hN⟩, hr, hlk⟩ := C
  unfold m_XR_beginLine_118 at h
  obtain ⟨hz, h⟩ := tc_gb_some h
  refine tc_rp31 C0 hJ hP hS (tc_use hN tw_635) hz dXR_beginLine_118 (fun H locs hP hS => ?_)
  refine lv_aload_n hx hb dXR_beginLine_121 rfl (lv_at hl 0 rfl) ?_
  obtain ⟨q122, e122, h⟩ := tc_bd_some h
  refine tc_cVv (As := []) (rest := []) C0 (k_XR_tellSecond hJ e122) tv_XR_280 (by decide) (by decide) hP hS hl 0 rfl rfl (Nat.le_of_ble_eq_true rfl) dXR_beginLine_122 rfl (fun H locs hP hS => ?_)
  exact w_XR_beginLine_125 C0 hJ h hP hS (lv_sub hl [] rfl)
def m_XR_beginLine_113 (σ : tc_S) : Option (tc_S) := (m_XR_beginLine_118 σ 1)
set_option maxHeartbeats 4000000 in
set_option maxRecDepth 100000 in
theorem w_XR_beginLine_113 (C : tc_C p s m args meth c RXR cXR_beginLine 1 none D cA) (hJ : ∀ σ, va_D A (tc_rW ad cA σ)) {q : tc_S} {σ : tc_S} {H : Heap} {locs : List Loc} {ls : Array Slot} (h : m_XR_beginLine_113 σ = some q) (hP : va_P D vwCl (tc_rW ad cA σ) H) (hS : va_S A s.heap H locs) (hl : lv_has ls 1 [(0, .ref (ad 0))]) : W p l e (tc_R 5) s m args below meth c H locs 0 0 (MQ below (tc_Qv D (tc_rW ad cA q) A) args s 0 0 A) (F0 m 113 ls [.ref (ad 0)]) := by
  have C0 := C
  obtain ⟨hx, hb, hml, hown, ⟨hK, hN⟩, hr, hlk⟩ := C
  unfold m_XR_beginLine_113 at h
  refine lv_iconst (v := 1) hx hb dXR_beginLine_113 (by decide) ?_
  refine lv_goto (tgt := 118) hx hb dXR_beginLine_114 (by decide) ?_
  exact w_XR_beginLine_118 C0 hJ h hP hS (lv_sub hl [0] rfl)
def m_XR_beginLine_72 (σ : tc_S) : Option (tc_S) := (some σ)
set_option maxHeartbeats 4000000 in
set_option maxRecDepth 100000 in
theorem w_XR_beginLine_72 (C : tc_C p s m args meth c RXR cXR_beginLine 1 none D cA) (hJ : ∀ σ, va_D A (tc_rW ad cA σ)) {q : tc_S} {σ : tc_S} {H : Heap} {locs : List Loc} {ls : Array Slot} (h : m_XR_beginLine_72 σ = some q) (hP : va_P D vwCl (tc_rW ad cA σ) H) (hS : va_S A s.heap H locs) (hl : lv_has ls 1 []) : W p l e (tc_R 5) s m args below meth c H locs 0 0 (MQ below (tc_Qv D (tc_rW ad cA q) A) args s 0 0 A) (F0 m 72 ls []) := by
  have C0 := C
  obtain ⟨hx, hb, hml, hown, ⟨hK, hN⟩, hr, hlk⟩ := C
  unfold m_XR_beginLine_72 at h
  exact tc_rrv C0 hP hS h dXR_beginLine_72
def m_XR_beginLine_56 (σ : tc_S) (k0 : Int32) : Option (tc_S) := (tc_gb k0 (m_XR_beginLine_72 (tc_sf σ 30 k0)))
set_option maxHeartbeats 4000000 in
set_option maxRecDepth 100000 in
theorem w_XR_beginLine_56 (C : tc_C p s m args meth c RXR cXR_beginLine 1 none D cA) (hJ : ∀ σ, va_D A (tc_rW ad cA σ)) {q : tc_S} {σ : tc_S} {k0 : Int32} {H : Heap} {locs : List Loc} {ls : Array Slot} (h : m_XR_beginLine_56 σ k0 = some q) (hP : va_P D vwCl (tc_rW ad cA σ) H) (hS : va_S A s.heap H locs) (hl : lv_has ls 1 []) : W p l e (tc_R 5) s m args below meth c H locs 0 0 (MQ below (tc_Qv D (tc_rW ad cA q) A) args s 0 0 A) (F0 m 56 ls [.int k0, .ref (ad 0)]) := by
  have C0 := C
  obtain ⟨hx, hb, hml, hown, ⟨hK, hN⟩, hr, hlk⟩ := C
  unfold m_XR_beginLine_56 at h
  obtain ⟨hz, h⟩ := tc_gb_some h
  refine tc_rp30 C0 hJ hP hS (tc_use hN tw_634) hz dXR_beginLine_56 (fun H locs hP hS => ?_)
  refine lv_goto (tgt := 72) hx hb dXR_beginLine_59 (by decide) ?_
  exact w_XR_beginLine_72 C0 hJ h hP hS (lv_sub hl [] rfl)
def m_XR_beginLine_51 (σ : tc_S) : Option (tc_S) := (m_XR_beginLine_56 σ 1)
set_option maxHeartbeats 4000000 in
set_option maxRecDepth 100000 in
theorem w_XR_beginLine_51 (C : tc_C p s m args meth c RXR cXR_beginLine 1 none D cA) (hJ : ∀ σ, va_D A (tc_rW ad cA σ)) {q : tc_S} {σ : tc_S} {H : Heap} {locs : List Loc} {ls : Array Slot} (h : m_XR_beginLine_51 σ = some q) (hP : va_P D vwCl (tc_rW ad cA σ) H) (hS : va_S A s.heap H locs) (hl : lv_has ls 1 []) : W p l e (tc_R 5) s m args below meth c H locs 0 0 (MQ below (tc_Qv D (tc_rW ad cA q) A) args s 0 0 A) (F0 m 51 ls [.ref (ad 0)]) := by
  have C0 := C
  obtain ⟨hx, hb, hml, hown, ⟨hK, hN⟩, hr, hlk⟩ := C
  unfold m_XR_beginLine_51 at h
  refine lv_iconst (v := 1) hx hb dXR_beginLine_51 (by decide) ?_
  refine lv_goto (tgt := 56) hx hb dXR_beginLine_52 (by decide) ?_
  exact w_XR_beginLine_56 C0 hJ h hP hS (lv_sub hl [] rfl)
def m_XR_beginLine (σ : tc_S) : Option (tc_S) := (if 8 ≤ (tc_gf σ 27) then (tc_gd 8 16 (if (tc_gf (tc_sf σ 29 (tc_ga σ 5 8)) 27) = 8 then (if (tc_gf (tc_sf σ 29 (tc_ga σ 5 8)) 31) = 0 then (tc_gd 1 16 (if ((tc_ga (tc_sf σ 29 (tc_ga σ 5 8)) 5 1) &&& 32) = 0 then (m_XR_beginLine_118 (tc_sf σ 29 (tc_ga σ 5 8)) 0) else (m_XR_beginLine_113 (tc_sf σ 29 (tc_ga σ 5 8))))) else (m_XR_beginLine_113 (tc_sf σ 29 (tc_ga σ 5 8)))) else (m_XR_beginLine_125 (tc_sf σ 29 (tc_ga σ 5 8))))) else ((m_XR_draw σ).bind (fun q10 => (if (tc_gf q10 29) = 0 then (tc_gd 8 16 (if (tc_gf (tc_sf q10 29 (tc_ga q10 5 8)) 30) = 0 then (tc_gd 0 16 (if ((tc_ga (tc_sf q10 29 (tc_ga q10 5 8)) 5 0) &&& 16) = 0 then (m_XR_beginLine_56 (tc_sf q10 29 (tc_ga q10 5 8)) 0) else (m_XR_beginLine_51 (tc_sf q10 29 (tc_ga q10 5 8))))) else (m_XR_beginLine_51 (tc_sf q10 29 (tc_ga q10 5 8))))) else (m_XR_beginLine_72 (tc_sf q10 29 ((tc_gf q10 29) - 1)))))))
set_option maxHeartbeats 4000000 in
set_option maxRecDepth 100000 in
theorem w_XR_beginLine_0 (C : tc_C p s m args meth c RXR cXR_beginLine 1 none D cA) (hJ : ∀ σ, va_D A (tc_rW ad cA σ)) {q : tc_S} {σ : tc_S} {H : Heap} {locs : List Loc} {ls : Array Slot} (h : m_XR_beginLine σ = some q) (hP : va_P D vwCl (tc_rW ad cA σ) H) (hS : va_S A s.heap H locs) (hl : lv_has ls 1 [(0, .ref (ad 0))]) : W p l e (tc_R 5) s m args below meth c H locs 0 0 (MQ below (tc_Qv D (tc_rW ad cA q) A) args s 0 0 A) (F0 m 0 ls []) := by
  have C0 := C
  obtain ⟨hx, hb, hml, hown, ⟨hK, hN⟩, hr, hlk⟩ := C
  unfold m_XR_beginLine at h
  refine lv_aload_n hx hb dXR_beginLine_0 rfl (lv_at hl 0 rfl) ?_
  refine tc_rg27 C0 hP (tc_use hN tw_662) dXR_beginLine_1 ?_
  refine lv_bipush (v := 8) hx hb dXR_beginLine_4 (by decide) ?_
  refine lv_icmp_ge (tgt := 73) hx hb dXR_beginLine_6 (by decide) (fun hc => ?_) (fun hc => ?_)
  · have h := tc_ip hc h
    refine lv_aload_n hx hb dXR_beginLine_73 rfl (lv_at hl 0 rfl) ?_
    refine lv_aload_n hx hb dXR_beginLine_74 rfl (lv_at hl 0 rfl) ?_
    refine tc_rr_XR_regs C0 hP (tc_use hN tw_653) dXR_beginLine_75 ?_
    refine lv_bipush (v := 8) hx hb dXR_beginLine_78 (by decide) ?_
    obtain ⟨hi, h⟩ := tc_gd_some h
    refine tc_rld8 C0 hP hi dXR_beginLine_80 ?_
    refine tc_rp29 C0 hJ hP hS (tc_use hN tw_664) dXR_beginLine_81 (fun H locs hP hS => ?_)
    refine lv_aload_n hx hb dXR_beginLine_84 rfl (lv_at hl 0 rfl) ?_
    refine tc_rg27 C0 hP (tc_use hN tw_662) dXR_beginLine_85 ?_
    refine lv_bipush (v := 8) hx hb dXR_beginLine_88 (by decide) ?_
    refine lv_icmp_ne (tgt := 125) hx hb dXR_beginLine_90 (by decide) (fun hc => ?_) (fun hc => ?_)
    · have h := tc_in hc h
      exact w_XR_beginLine_125 C0 hJ h hP hS (lv_sub hl [] rfl)
    · have h := tc_ip hc h
      refine lv_aload_n hx hb dXR_beginLine_93 rfl (lv_at hl 0 rfl) ?_
      refine lv_aload_n hx hb dXR_beginLine_94 rfl (lv_at hl 0 rfl) ?_
      refine tc_rg31 C0 hP (tc_use hN tw_635) dXR_beginLine_95 ?_
      refine lv_if_ne (tgt := 113) hx hb dXR_beginLine_98 (by decide) (fun hc => ?_) (fun hc => ?_)
      · have h := tc_in hc h
        exact w_XR_beginLine_113 C0 hJ h hP hS (lv_sub hl [0] rfl)
      · have h := tc_ip hc h
        refine lv_aload_n hx hb dXR_beginLine_101 rfl (lv_at hl 0 rfl) ?_
        refine tc_rr_XR_regs C0 hP (tc_use hN tw_653) dXR_beginLine_102 ?_
        refine lv_iconst (v := 1) hx hb dXR_beginLine_105 (by decide) ?_
        obtain ⟨hi, h⟩ := tc_gd_some h
        refine tc_rld8 C0 hP hi dXR_beginLine_106 ?_
        refine lv_bipush (v := 32) hx hb dXR_beginLine_107 (by decide) ?_
        refine lv_iand hx hb dXR_beginLine_109 ?_
        refine lv_if_eq (tgt := 117) hx hb dXR_beginLine_110 (by decide) (fun hc => ?_) (fun hc => ?_)
        · have h := tc_ip hc h
          refine lv_iconst (v := 0) hx hb dXR_beginLine_117 (by decide) ?_
          exact w_XR_beginLine_118 C0 hJ h hP hS (lv_sub hl [0] rfl)
        · have h := tc_in hc h
          exact w_XR_beginLine_113 C0 hJ h hP hS (lv_sub hl [0] rfl)
  · have h := tc_in hc h
    refine lv_aload_n hx hb dXR_beginLine_9 rfl (lv_at hl 0 rfl) ?_
    obtain ⟨q10, e10, h⟩ := tc_bd_some h
    refine tc_cVv (As := []) (rest := []) C0 (k_XR_draw hJ e10) tv_XR_274 (by decide) (by decide) hP hS hl 0 rfl rfl (Nat.le_of_ble_eq_true rfl) dXR_beginLine_10 rfl (fun H locs hP hS => ?_)
    refine lv_aload_n hx hb dXR_beginLine_13 rfl (lv_at hl 0 rfl) ?_
    refine tc_rg29 C0 hP (tc_use hN tw_664) dXR_beginLine_14 ?_
    refine lv_if_ne (tgt := 62) hx hb dXR_beginLine_17 (by decide) (fun hc => ?_) (fun hc => ?_)
    · have h := tc_in hc h
      refine lv_aload_n hx hb dXR_beginLine_62 rfl (lv_at hl 0 rfl) ?_
      refine lv_dup hx hb dXR_beginLine_63 rfl ?_
      refine tc_rg29 C0 hP (tc_use hN tw_664) dXR_beginLine_64 ?_
      refine lv_iconst (v := 1) hx hb dXR_beginLine_67 (by decide) ?_
      refine lv_isub hx hb dXR_beginLine_68 ?_
      refine tc_rp29 C0 hJ hP hS (tc_use hN tw_664) dXR_beginLine_69 (fun H locs hP hS => ?_)
      exact w_XR_beginLine_72 C0 hJ h hP hS (lv_sub hl [] rfl)
    · have h := tc_ip hc h
      refine lv_aload_n hx hb dXR_beginLine_20 rfl (lv_at hl 0 rfl) ?_
      refine lv_aload_n hx hb dXR_beginLine_21 rfl (lv_at hl 0 rfl) ?_
      refine tc_rr_XR_regs C0 hP (tc_use hN tw_653) dXR_beginLine_22 ?_
      refine lv_bipush (v := 8) hx hb dXR_beginLine_25 (by decide) ?_
      obtain ⟨hi, h⟩ := tc_gd_some h
      refine tc_rld8 C0 hP hi dXR_beginLine_27 ?_
      refine tc_rp29 C0 hJ hP hS (tc_use hN tw_664) dXR_beginLine_28 (fun H locs hP hS => ?_)
      refine lv_aload_n hx hb dXR_beginLine_31 rfl (lv_at hl 0 rfl) ?_
      refine lv_aload_n hx hb dXR_beginLine_32 rfl (lv_at hl 0 rfl) ?_
      refine tc_rg30 C0 hP (tc_use hN tw_634) dXR_beginLine_33 ?_
      refine lv_if_ne (tgt := 51) hx hb dXR_beginLine_36 (by decide) (fun hc => ?_) (fun hc => ?_)
      · have h := tc_in hc h
        exact w_XR_beginLine_51 C0 hJ h hP hS (lv_sub hl [] rfl)
      · have h := tc_ip hc h
        refine lv_aload_n hx hb dXR_beginLine_39 rfl (lv_at hl 0 rfl) ?_
        refine tc_rr_XR_regs C0 hP (tc_use hN tw_653) dXR_beginLine_40 ?_
        refine lv_iconst (v := 0) hx hb dXR_beginLine_43 (by decide) ?_
        obtain ⟨hi, h⟩ := tc_gd_some h
        refine tc_rld8 C0 hP hi dXR_beginLine_44 ?_
        refine lv_bipush (v := 16) hx hb dXR_beginLine_45 (by decide) ?_
        refine lv_iand hx hb dXR_beginLine_47 ?_
        refine lv_if_eq (tgt := 55) hx hb dXR_beginLine_48 (by decide) (fun hc => ?_) (fun hc => ?_)
        · have h := tc_ip hc h
          refine lv_iconst (v := 0) hx hb dXR_beginLine_55 (by decide) ?_
          exact w_XR_beginLine_56 C0 hJ h hP hS (lv_sub hl [] rfl)
        · have h := tc_in hc h
          exact w_XR_beginLine_51 C0 hJ h hP hS (lv_sub hl [] rfl)
theorem k_XR_beginLine (hJ : ∀ σ, va_D A (tc_rW ad cA σ)) {σ : tc_S} {q : tc_S} (h : m_XR_beginLine σ = some q) : Met l yXR_beginLine [.code yXR_beginLine cXR_beginLine 1 none] (tc_R 5) (tc_Pc D cA (tc_rW ad cA σ) [.ref (ad 0)]) (tc_Qv D (tc_rW ad cA q) A) 0 0 A :=
  tc_met (by decide) (Nat.le_of_ble_eq_true rfl) (fun _ _ _ _ _ _ _ C hP _ hl => w_XR_beginLine_0 C hJ h hP va_S.rf hl)
end WALK_R_13
