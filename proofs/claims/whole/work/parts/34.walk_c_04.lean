section WALK_C_04
variable {p : Program} {l : Launch} {e : Env} {s : State} {m : MethodId} {args : Array Value} {below : List Frame} {meth : Method} {c : Code} {D : va_G} {cA : ClassId} {A : Nat → Prop} {ad : Nat → Nat}
def m_XS_nextByte (σ : tc_S) : Option (Int32 × tc_S) := ((m_XS_readByte σ (tc_gf σ 11)).bind (fun q5 => (some (q5.1, (tc_sf q5.2 11 (((tc_gf q5.2 11) + 1) &&& 65535))))))
set_option maxHeartbeats 4000000 in
set_option maxRecDepth 100000 in
theorem w_XS_nextByte_0 (C : tc_C p s m args meth c RXS cXS_nextByte 2 (some .int) D cA) (hJ : ∀ σ, va_D A (tc_cW ad cA σ)) {q : Int32 × tc_S} {σ : tc_S} {H : Heap} {locs : List Loc} {ls : Array Slot} (h : m_XS_nextByte σ = some q) (hP : va_P D vwCl (tc_cW ad cA σ) H) (hS : va_S A s.heap H locs) (hl : lv_has ls 2 [(0, .ref (ad 2))]) : W p l e (tc_R 1) s m args below meth c H locs 0 0 (MQ below (tc_Qi D (tc_cW ad cA q.2) A q.1) args s 0 0 A) (F0 m 0 ls []) := by
  have C0 := C
  obtain ⟨hx, hb, hml, hown, ⟨hK, hN⟩, hr, hlk⟩ := C
  unfold m_XS_nextByte at h
  refine lv_aload_n hx hb dXS_nextByte_0 rfl (lv_at hl 0 rfl) ?_
  refine lv_aload_n hx hb dXS_nextByte_1 rfl (lv_at hl 0 rfl) ?_
  refine tc_cg11 C0 hP (tc_use hN tw_33) dXS_nextByte_2 ?_
  obtain ⟨q5, e5, h⟩ := tc_bd_some h
  refine tc_cVi (As := [.int (tc_gf σ 11)]) (rest := []) C0 (k_XS_readByte hJ e5) tv_XS_69 (by decide) (by decide) hP hS hl 2 rfl rfl (Nat.le_of_ble_eq_true rfl) dXS_nextByte_5 rfl (fun H locs hP hS => ?_)
  refine lv_istore_n (lv' := [(1, .int q5.1), (0, .ref (ad 2))]) hx hb dXS_nextByte_8 rfl hl (by decide) rfl (fun ls hl => ?_)
  refine lv_aload_n hx hb dXS_nextByte_9 rfl (lv_at hl 1 rfl) ?_
  refine lv_aload_n hx hb dXS_nextByte_10 rfl (lv_at hl 1 rfl) ?_
  refine tc_cg11 C0 hP (tc_use hN tw_33) dXS_nextByte_11 ?_
  refine lv_iconst (v := 1) hx hb dXS_nextByte_14 (by decide) ?_
  refine lv_iadd hx hb dXS_nextByte_15 ?_
  refine lv_ldc (v := 65535) hx hb hown (tc_use hN tw_511) dXS_nextByte_16 ?_
  refine lv_iand hx hb dXS_nextByte_18 ?_
  refine tc_cp11 C0 hJ hP hS (tc_use hN tw_33) dXS_nextByte_19 (fun H locs hP hS => ?_)
  refine lv_iload_n hx hb dXS_nextByte_22 rfl (lv_at hl 0 rfl) ?_
  exact tc_cri C0 hP hS h dXS_nextByte_23
theorem k_XS_nextByte (hJ : ∀ σ, va_D A (tc_cW ad cA σ)) {σ : tc_S} {q : Int32 × tc_S} (h : m_XS_nextByte σ = some q) : Met l yXS_nextByte [.code yXS_nextByte cXS_nextByte 2 (some .int)] (tc_R 1) (tc_Pc D cA (tc_cW ad cA σ) [.ref (ad 2)]) (tc_Qi D (tc_cW ad cA q.2) A q.1) 0 0 A :=
  tc_met (by decide) (Nat.le_of_ble_eq_true rfl) (fun _ _ _ _ _ _ _ C hP _ hl => w_XS_nextByte_0 C hJ h hP va_S.rf hl)
def m_XS_branch (σ : tc_S) (l1 : Int32) : Option (Int32 × tc_S) := (if (tc_gf σ 12) = 0 then (some (12, (tc_sf σ 11 (((tc_gf σ 11) + l1) &&& 65535)))) else (some (7, σ)))
set_option maxHeartbeats 4000000 in
set_option maxRecDepth 100000 in
theorem w_XS_branch_0 (C : tc_C p s m args meth c RXS cXS_branch 2 (some .int) D cA) (hJ : ∀ σ, va_D A (tc_cW ad cA σ)) {q : Int32 × tc_S} {σ : tc_S} {l1 : Int32} {H : Heap} {locs : List Loc} {ls : Array Slot} (h : m_XS_branch σ l1 = some q) (hP : va_P D vwCl (tc_cW ad cA σ) H) (hS : va_S A s.heap H locs) (hl : lv_has ls 2 [(0, .ref (ad 2)), (1, .int l1)]) : W p l e (tc_R 0) s m args below meth c H locs 0 0 (MQ below (tc_Qi D (tc_cW ad cA q.2) A q.1) args s 0 0 A) (F0 m 0 ls []) := by
  have C0 := C
  obtain ⟨hx, hb, hml, hown, ⟨hK, hN⟩, hr, hlk⟩ := C
  unfold m_XS_branch at h
  refine lv_aload_n hx hb dXS_branch_0 rfl (lv_at hl 0 rfl) ?_
  refine tc_cg12 C0 hP (tc_use hN tw_35) dXS_branch_1 ?_
  refine lv_if_eq (tgt := 10) hx hb dXS_branch_4 (by decide) (fun hc => ?_) (fun hc => ?_)
  · have h := tc_ip hc h
    refine lv_aload_n hx hb dXS_branch_10 rfl (lv_at hl 0 rfl) ?_
    refine lv_aload_n hx hb dXS_branch_11 rfl (lv_at hl 0 rfl) ?_
    refine tc_cg11 C0 hP (tc_use hN tw_33) dXS_branch_12 ?_
    refine lv_iload_n hx hb dXS_branch_15 rfl (lv_at hl 1 rfl) ?_
    refine lv_iadd hx hb dXS_branch_16 ?_
    refine lv_ldc (v := 65535) hx hb hown (tc_use hN tw_511) dXS_branch_17 ?_
    refine lv_iand hx hb dXS_branch_19 ?_
    refine tc_cp11 C0 hJ hP hS (tc_use hN tw_33) dXS_branch_20 (fun H locs hP hS => ?_)
    refine lv_bipush (v := 12) hx hb dXS_branch_23 (by decide) ?_
    exact tc_cri C0 hP hS h dXS_branch_25
  · have h := tc_in hc h
    refine lv_bipush (v := 7) hx hb dXS_branch_7 (by decide) ?_
    exact tc_cri C0 hP hS h dXS_branch_9
theorem k_XS_branch (hJ : ∀ σ, va_D A (tc_cW ad cA σ)) {σ : tc_S} {l1 : Int32} {q : Int32 × tc_S} (h : m_XS_branch σ l1 = some q) : Met l yXS_branch [.code yXS_branch cXS_branch 2 (some .int)] (tc_R 0) (tc_Pc D cA (tc_cW ad cA σ) [.ref (ad 2), .int l1]) (tc_Qi D (tc_cW ad cA q.2) A q.1) 0 0 A :=
  tc_met (by decide) (Nat.le_of_ble_eq_true rfl) (fun _ _ _ _ _ _ _ C hP _ hl => w_XS_branch_0 C hJ h hP va_S.rf hl)
def m_XS_nextAddress (σ : tc_S) : Option (Int32 × tc_S) := ((m_XS_nextByte σ).bind (fun q1 => ((m_XS_nextByte q1.2).bind (fun q6 => (some (((q6.1 * 256) + q1.1), q6.2))))))
set_option maxHeartbeats 4000000 in
set_option maxRecDepth 100000 in
theorem w_XS_nextAddress_0 (C : tc_C p s m args meth c RXS cXS_nextAddress 2 (some .int) D cA) (hJ : ∀ σ, va_D A (tc_cW ad cA σ)) {q : Int32 × tc_S} {σ : tc_S} {H : Heap} {locs : List Loc} {ls : Array Slot} (h : m_XS_nextAddress σ = some q) (hP : va_P D vwCl (tc_cW ad cA σ) H) (hS : va_S A s.heap H locs) (hl : lv_has ls 2 [(0, .ref (ad 2))]) : W p l e (tc_R 2) s m args below meth c H locs 0 0 (MQ below (tc_Qi D (tc_cW ad cA q.2) A q.1) args s 0 0 A) (F0 m 0 ls []) := by
  have C0 := C
  obtain ⟨hx, hb, hml, hown, ⟨hK, hN⟩, hr, hlk⟩ := C
  unfold m_XS_nextAddress at h
  refine lv_aload_n hx hb dXS_nextAddress_0 rfl (lv_at hl 0 rfl) ?_
  obtain ⟨q1, e1, h⟩ := tc_bd_some h
  refine tc_cVi (As := []) (rest := []) C0 (k_XS_nextByte hJ e1) tv_XS_59 (by decide) (by decide) hP hS hl 2 rfl rfl (Nat.le_of_ble_eq_true rfl) dXS_nextAddress_1 rfl (fun H locs hP hS => ?_)
  refine lv_istore_n (lv' := [(1, .int q1.1), (0, .ref (ad 2))]) hx hb dXS_nextAddress_4 rfl hl (by decide) rfl (fun ls hl => ?_)
  refine lv_aload_n hx hb dXS_nextAddress_5 rfl (lv_at hl 1 rfl) ?_
  obtain ⟨q6, e6, h⟩ := tc_bd_some h
  refine tc_cVi (As := []) (rest := []) C0 (k_XS_nextByte hJ e6) tv_XS_59 (by decide) (by decide) hP hS hl 2 rfl rfl (Nat.le_of_ble_eq_true rfl) dXS_nextAddress_6 rfl (fun H locs hP hS => ?_)
  refine lv_sipush (v := 256) hx hb dXS_nextAddress_9 (by decide) ?_
  refine lv_imul hx hb dXS_nextAddress_12 ?_
  refine lv_iload_n hx hb dXS_nextAddress_13 rfl (lv_at hl 0 rfl) ?_
  refine lv_iadd hx hb dXS_nextAddress_14 ?_
  exact tc_cri C0 hP hS h dXS_nextAddress_15
theorem k_XS_nextAddress (hJ : ∀ σ, va_D A (tc_cW ad cA σ)) {σ : tc_S} {q : Int32 × tc_S} (h : m_XS_nextAddress σ = some q) : Met l yXS_nextAddress [.code yXS_nextAddress cXS_nextAddress 2 (some .int)] (tc_R 2) (tc_Pc D cA (tc_cW ad cA σ) [.ref (ad 2)]) (tc_Qi D (tc_cW ad cA q.2) A q.1) 0 0 A :=
  tc_met (by decide) (Nat.le_of_ble_eq_true rfl) (fun _ _ _ _ _ _ _ C hP _ hl => w_XS_nextAddress_0 C hJ h hP va_S.rf hl)
def m_XS_writeByte_19 (σ : tc_S) : Option (tc_S) := (some σ)
set_option maxHeartbeats 4000000 in
set_option maxRecDepth 100000 in
theorem w_XS_writeByte_19 (C : tc_C p s m args meth c RXS cXS_writeByte 2 none D cA) (hJ : ∀ σ, va_D A (tc_cW ad cA σ)) {q : tc_S} {σ : tc_S} {H : Heap} {locs : List Loc} {ls : Array Slot} (h : m_XS_writeByte_19 σ = some q) (hP : va_P D vwCl (tc_cW ad cA σ) H) (hS : va_S A s.heap H locs) (hl : lv_has ls 2 []) : W p l e (tc_R 0) s m args below meth c H locs 0 0 (MQ below (tc_Qv D (tc_cW ad cA q) A) args s 0 0 A) (F0 m 19 ls []) := by
  have C0 := C
  obtain ⟨hx, hb, hml, hown, ⟨hK, hN⟩, hr, hlk⟩ := C
  unfold m_XS_writeByte_19 at h
  exact tc_crv C0 hP hS h dXS_writeByte_19
def m_XS_writeByte (σ : tc_S) (l1 : Int32) : Option (tc_S) := (if 32768 ≤ l1 then (m_XS_writeByte_19 σ) else (tc_gd (l1 &&& 127) 128 (m_XS_writeByte_19 (tc_sa σ 1 (l1 &&& 127) (tc_gf σ 8)))))
set_option maxHeartbeats 4000000 in
set_option maxRecDepth 100000 in
theorem w_XS_writeByte_0 (C : tc_C p s m args meth c RXS cXS_writeByte 2 none D cA) (hJ : ∀ σ, va_D A (tc_cW ad cA σ)) {q : tc_S} {σ : tc_S} {l1 : Int32} {H : Heap} {locs : List Loc} {ls : Array Slot} (h : m_XS_writeByte σ l1 = some q) (hP : va_P D vwCl (tc_cW ad cA σ) H) (hS : va_S A s.heap H locs) (hl : lv_has ls 2 [(0, .ref (ad 2)), (1, .int l1)]) : W p l e (tc_R 0) s m args below meth c H locs 0 0 (MQ below (tc_Qv D (tc_cW ad cA q) A) args s 0 0 A) (F0 m 0 ls []) := by
  have C0 := C
  obtain ⟨hx, hb, hml, hown, ⟨hK, hN⟩, hr, hlk⟩ := C
  unfold m_XS_writeByte at h
  refine lv_iload_n hx hb dXS_writeByte_0 rfl (lv_at hl 1 rfl) ?_
  refine lv_ldc (v := 32768) hx hb hown (tc_use hN tw_510) dXS_writeByte_1 ?_
  refine lv_icmp_ge (tgt := 19) hx hb dXS_writeByte_3 (by decide) (fun hc => ?_) (fun hc => ?_)
  · have h := tc_ip hc h
    exact w_XS_writeByte_19 C0 hJ h hP hS (lv_sub hl [] rfl)
  · have h := tc_in hc h
    refine lv_aload_n hx hb dXS_writeByte_6 rfl (lv_at hl 0 rfl) ?_
    refine tc_cr_XS_ram C0 hP (tc_use hN tw_24) dXS_writeByte_7 ?_
    refine lv_iload_n hx hb dXS_writeByte_10 rfl (lv_at hl 1 rfl) ?_
    refine lv_bipush (v := 127) hx hb dXS_writeByte_11 (by decide) ?_
    refine lv_iand hx hb dXS_writeByte_13 ?_
    refine lv_aload_n hx hb dXS_writeByte_14 rfl (lv_at hl 0 rfl) ?_
    refine tc_cg8 C0 hP (tc_use hN tw_27) dXS_writeByte_15 ?_
    obtain ⟨hi, h⟩ := tc_gd_some h
    refine tc_cst10 C0 hJ hP hS hi dXS_writeByte_18 (fun H locs hP hS => ?_)
    exact w_XS_writeByte_19 C0 hJ h hP hS (lv_sub hl [] rfl)
theorem k_XS_writeByte (hJ : ∀ σ, va_D A (tc_cW ad cA σ)) {σ : tc_S} {l1 : Int32} {q : tc_S} (h : m_XS_writeByte σ l1 = some q) : Met l yXS_writeByte [.code yXS_writeByte cXS_writeByte 2 none] (tc_R 0) (tc_Pc D cA (tc_cW ad cA σ) [.ref (ad 2), .int l1]) (tc_Qv D (tc_cW ad cA q) A) 0 0 A :=
  tc_met (by decide) (Nat.le_of_ble_eq_true rfl) (fun _ _ _ _ _ _ _ C hP _ hl => w_XS_writeByte_0 C hJ h hP va_S.rf hl)
def m_XS_count_22 (σ : tc_S) (k0 : Int32) : Option (Int32 × tc_S) := (tc_gb k0 (some (4, (tc_sf σ 12 k0))))
set_option maxHeartbeats 4000000 in
set_option maxRecDepth 100000 in
theorem w_XS_count_22 (C : tc_C p s m args meth c RXS cXS_count 2 (some .int) D cA) (hJ : ∀ σ, va_D A (tc_cW ad cA σ)) {q : Int32 × tc_S} {σ : tc_S} {k0 : Int32} {H : Heap} {locs : List Loc} {ls : Array Slot} (h : m_XS_count_22 σ k0 = some q) (hP : va_P D vwCl (tc_cW ad cA σ) H) (hS : va_S A s.heap H locs) (hl : lv_has ls 2 []) : W p l e (tc_R 0) s m args below meth c H locs 0 0 (MQ below (tc_Qi D (tc_cW ad cA q.2) A q.1) args s 0 0 A) (F0 m 22 ls [.int k0, .ref (ad 2)]) := by
  have C0 := C
  obtain ⟨hx, hb, hml, hown, ⟨hK, hN⟩, hr, hlk⟩ := C
  unfold m_XS_count_22 at h
  obtain ⟨hz, h⟩ := tc_gb_some h
  refine tc_cp12 C0 hJ hP hS (tc_use hN tw_35) hz dXS_count_22 (fun H locs hP hS => ?_)
  refine lv_iconst (v := 4) hx hb dXS_count_25 (by decide) ?_
  exact tc_cri C0 hP hS h dXS_count_26
def m_XS_count (σ : tc_S) (l1 : Int32) : Option (Int32 × tc_S) := (if (tc_gf (tc_sf σ 8 (l1 &&& 255)) 8) = 0 then (m_XS_count_22 (tc_sf σ 8 (l1 &&& 255)) 1) else (m_XS_count_22 (tc_sf σ 8 (l1 &&& 255)) 0))
set_option maxHeartbeats 4000000 in
set_option maxRecDepth 100000 in
theorem w_XS_count_0 (C : tc_C p s m args meth c RXS cXS_count 2 (some .int) D cA) (hJ : ∀ σ, va_D A (tc_cW ad cA σ)) {q : Int32 × tc_S} {σ : tc_S} {l1 : Int32} {H : Heap} {locs : List Loc} {ls : Array Slot} (h : m_XS_count σ l1 = some q) (hP : va_P D vwCl (tc_cW ad cA σ) H) (hS : va_S A s.heap H locs) (hl : lv_has ls 2 [(0, .ref (ad 2)), (1, .int l1)]) : W p l e (tc_R 0) s m args below meth c H locs 0 0 (MQ below (tc_Qi D (tc_cW ad cA q.2) A q.1) args s 0 0 A) (F0 m 0 ls []) := by
  have C0 := C
  obtain ⟨hx, hb, hml, hown, ⟨hK, hN⟩, hr, hlk⟩ := C
  unfold m_XS_count at h
  refine lv_aload_n hx hb dXS_count_0 rfl (lv_at hl 0 rfl) ?_
  refine lv_iload_n hx hb dXS_count_1 rfl (lv_at hl 1 rfl) ?_
  refine lv_sipush (v := 255) hx hb dXS_count_2 (by decide) ?_
  refine lv_iand hx hb dXS_count_5 ?_
  refine tc_cp8 C0 hJ hP hS (tc_use hN tw_27) dXS_count_6 (fun H locs hP hS => ?_)
  refine lv_aload_n hx hb dXS_count_9 rfl (lv_at hl 0 rfl) ?_
  refine lv_aload_n hx hb dXS_count_10 rfl (lv_at hl 0 rfl) ?_
  refine tc_cg8 C0 hP (tc_use hN tw_27) dXS_count_11 ?_
  refine lv_if_ne (tgt := 21) hx hb dXS_count_14 (by decide) (fun hc => ?_) (fun hc => ?_)
  · have h := tc_in hc h
    refine lv_iconst (v := 0) hx hb dXS_count_21 (by decide) ?_
    exact w_XS_count_22 C0 hJ h hP hS (lv_sub hl [] rfl)
  · have h := tc_ip hc h
    refine lv_iconst (v := 1) hx hb dXS_count_17 (by decide) ?_
    refine lv_goto (tgt := 22) hx hb dXS_count_18 (by decide) ?_
    exact w_XS_count_22 C0 hJ h hP hS (lv_sub hl [] rfl)
theorem k_XS_count (hJ : ∀ σ, va_D A (tc_cW ad cA σ)) {σ : tc_S} {l1 : Int32} {q : Int32 × tc_S} (h : m_XS_count σ l1 = some q) : Met l yXS_count [.code yXS_count cXS_count 2 (some .int)] (tc_R 0) (tc_Pc D cA (tc_cW ad cA σ) [.ref (ad 2), .int l1]) (tc_Qi D (tc_cW ad cA q.2) A q.1) 0 0 A :=
  tc_met (by decide) (Nat.le_of_ble_eq_true rfl) (fun _ _ _ _ _ _ _ C hP _ hl => w_XS_count_0 C hJ h hP va_S.rf hl)
def m_XS_instruct (σ : tc_S) : Option (Int32 × tc_S) := ((m_XS_nextByte σ).bind (fun q1 => (if q1.1 = 32 then ((m_XS_nextByte q1.2).bind (fun q175 => ((m_XS_branch q175.2 q175.1.toInt8.toInt32).bind (fun q179 => (some (q179.1, q179.2)))))) else (if q1.1 = 50 then ((m_XS_nextAddress q1.2).bind (fun q149 => ((m_XS_writeByte q149.2 q149.1).bind (fun q152 => (some (13, q152)))))) else (if q1.1 = 58 then ((m_XS_nextAddress q1.2).bind (fun q161 => ((m_XS_readByte q161.2 q161.1).bind (fun q164 => (some (13, (tc_sf q164.2 8 q164.1))))))) else (if q1.1 = 60 then ((m_XS_count q1.2 ((tc_gf q1.2 8) + 1)).bind (fun q242 => (some (q242.1, q242.2)))) else (if q1.1 = 61 then ((m_XS_count q1.2 ((tc_gf q1.2 8) - 1)).bind (fun q267 => (some (q267.1, q267.2)))) else (if q1.1 = 62 then ((m_XS_nextByte q1.2).bind (fun q138 => (some (7, (tc_sf q138.2 8 q138.1))))) else (if q1.1 = 71 then (some (4, (tc_sf q1.2 9 (tc_gf q1.2 8)))) else (if q1.1 = 103 then (some (4, (tc_sf q1.2 10 (tc_gf q1.2 8)))) else (if q1.1 = 118 then (some (4, (tc_sf q1.2 13 1))) else (if q1.1 = 120 then (some (4, (tc_sf q1.2 8 (tc_gf q1.2 9)))) else (if q1.1 = 128 then ((m_XS_count q1.2 ((tc_gf q1.2 8) + (tc_gf q1.2 9))).bind (fun q256 => (some (q256.1, q256.2)))) else (if q1.1 = 195 then ((m_XS_nextAddress q1.2).bind (fun q185 => (some (10, (tc_sf q185.2 11 q185.1))))) else (if q1.1 = 201 then (some (10, (tc_sf q1.2 11 (tc_gf q1.2 10)))) else (if q1.1 = 243 then (some (4, (tc_sf q1.2 14 0))) else (if q1.1 = 251 then (some (4, (tc_sf q1.2 14 1))) else (some (4, q1.2)))))))))))))))))))
set_option maxHeartbeats 4000000 in
set_option maxRecDepth 100000 in
theorem w_XS_instruct_0 (C : tc_C p s m args meth c RXS cXS_instruct 1 (some .int) D cA) (hJ : ∀ σ, va_D A (tc_cW ad cA σ)) {q : Int32 × tc_S} {σ : tc_S} {H : Heap} {locs : List Loc} {ls : Array Slot} (h : m_XS_instruct σ = some q) (hP : va_P D vwCl (tc_cW ad cA σ) H) (hS : va_S A s.heap H locs) (hl : lv_has ls 1 [(0, .ref (ad 2))]) : W p l e (tc_R 3) s m args below meth c H locs 0 0 (MQ below (tc_Qi D (tc_cW ad cA q.2) A q.1) args s 0 0 A) (F0 m 0 ls []) := by
  have C0 := C
  obtain ⟨hx, hb, hml, hown, ⟨hK, hN⟩, hr, hlk⟩ := C
  unfold m_XS_instruct at h
  refine lv_aload_n hx hb dXS_instruct_0 rfl (lv_at hl 0 rfl) ?_
  obtain ⟨q1, e1, h⟩ := tc_bd_some h
  refine tc_cVi (As := []) (rest := []) C0 (k_XS_nextByte hJ e1) tv_XS_59 (by decide) (by decide) hP hS hl 2 rfl rfl (Nat.le_of_ble_eq_true rfl) dXS_instruct_1 rfl (fun H locs hP hS => ?_)
  by_cases hc0 : q1.1 = 32
  · have h := tc_ip hc0 h
    refine lv_lookup (off := 169) (tgt := 173) hx hb dXS_instruct_4 (by decide) (by rw [hc0]; decide) (by decide) ?_
    refine lv_aload_n hx hb dXS_instruct_173 rfl (lv_at hl 0 rfl) ?_
    refine lv_aload_n hx hb dXS_instruct_174 rfl (lv_at hl 0 rfl) ?_
    obtain ⟨q175, e175, h⟩ := tc_bd_some h
    refine tc_cVi (As := []) (rest := [.ref (ad 2)]) C0 (k_XS_nextByte hJ e175) tv_XS_59 (by decide) (by decide) hP hS hl 2 rfl rfl (Nat.le_of_ble_eq_true rfl) dXS_instruct_175 rfl (fun H locs hP hS => ?_)
    refine lv_i2b (v := q175.1.toInt8.toInt32) hx hb dXS_instruct_178 rfl ?_
    obtain ⟨q179, e179, h⟩ := tc_bd_some h
    refine tc_cVi (As := [.int q175.1.toInt8.toInt32]) (rest := []) C0 (k_XS_branch hJ e179) tv_XS_73 (by decide) (by decide) hP hS hl 2 rfl rfl (Nat.le_of_ble_eq_true rfl) dXS_instruct_179 rfl (fun H locs hP hS => ?_)
    exact tc_cri C0 hP hS h dXS_instruct_182
  have h := tc_in hc0 h
  by_cases hc1 : q1.1 = 50
  · have h := tc_ip hc1 h
    refine lv_lookup (off := 143) (tgt := 147) hx hb dXS_instruct_4 (by decide) (by rw [hc1]; decide) (by decide) ?_
    refine lv_aload_n hx hb dXS_instruct_147 rfl (lv_at hl 0 rfl) ?_
    refine lv_aload_n hx hb dXS_instruct_148 rfl (lv_at hl 0 rfl) ?_
    obtain ⟨q149, e149, h⟩ := tc_bd_some h
    refine tc_cVi (As := []) (rest := [.ref (ad 2)]) C0 (k_XS_nextAddress hJ e149) tv_XS_62 (by decide) (by decide) hP hS hl 2 rfl rfl (Nat.le_of_ble_eq_true rfl) dXS_instruct_149 rfl (fun H locs hP hS => ?_)
    obtain ⟨q152, e152, h⟩ := tc_bd_some h
    refine tc_cVv (As := [.int q149.1]) (rest := []) C0 (k_XS_writeByte hJ e152) tv_XS_65 (by decide) (by decide) hP hS hl 2 rfl rfl (Nat.le_of_ble_eq_true rfl) dXS_instruct_152 rfl (fun H locs hP hS => ?_)
    refine lv_bipush (v := 13) hx hb dXS_instruct_155 (by decide) ?_
    exact tc_cri C0 hP hS h dXS_instruct_157
  have h := tc_in hc1 h
  by_cases hc2 : q1.1 = 58
  · have h := tc_ip hc2 h
    refine lv_lookup (off := 154) (tgt := 158) hx hb dXS_instruct_4 (by decide) (by rw [hc2]; decide) (by decide) ?_
    refine lv_aload_n hx hb dXS_instruct_158 rfl (lv_at hl 0 rfl) ?_
    refine lv_aload_n hx hb dXS_instruct_159 rfl (lv_at hl 0 rfl) ?_
    refine lv_aload_n hx hb dXS_instruct_160 rfl (lv_at hl 0 rfl) ?_
    obtain ⟨q161, e161, h⟩ := tc_bd_some h
    refine tc_cVi (As := []) (rest := [.ref (ad 2), .ref (ad 2)]) C0 (k_XS_nextAddress hJ e161) tv_XS_62 (by decide) (by decide) hP hS hl 2 rfl rfl (Nat.le_of_ble_eq_true rfl) dXS_instruct_161 rfl (fun H locs hP hS => ?_)
    obtain ⟨q164, e164, h⟩ := tc_bd_some h
    refine tc_cVi (As := [.int q161.1]) (rest := [.ref (ad 2)]) C0 (k_XS_readByte hJ e164) tv_XS_69 (by decide) (by decide) hP hS hl 2 rfl rfl (Nat.le_of_ble_eq_true rfl) dXS_instruct_164 rfl (fun H locs hP hS => ?_)
    refine tc_cp8 C0 hJ hP hS (tc_use hN tw_27) dXS_instruct_167 (fun H locs hP hS => ?_)
    refine lv_bipush (v := 13) hx hb dXS_instruct_170 (by decide) ?_
    exact tc_cri C0 hP hS h dXS_instruct_172
  have h := tc_in hc2 h
  by_cases hc3 : q1.1 = 60
  · have h := tc_ip hc3 h
    refine lv_lookup (off := 231) (tgt := 235) hx hb dXS_instruct_4 (by decide) (by rw [hc3]; decide) (by decide) ?_
    refine lv_aload_n hx hb dXS_instruct_235 rfl (lv_at hl 0 rfl) ?_
    refine lv_aload_n hx hb dXS_instruct_236 rfl (lv_at hl 0 rfl) ?_
    refine tc_cg8 C0 hP (tc_use hN tw_27) dXS_instruct_237 ?_
    refine lv_iconst (v := 1) hx hb dXS_instruct_240 (by decide) ?_
    refine lv_iadd hx hb dXS_instruct_241 ?_
    obtain ⟨q242, e242, h⟩ := tc_bd_some h
    refine tc_cVi (As := [.int ((tc_gf q1.2 8) + 1)]) (rest := []) C0 (k_XS_count hJ e242) tv_XS_76 (by decide) (by decide) hP hS hl 2 rfl rfl (Nat.le_of_ble_eq_true rfl) dXS_instruct_242 rfl (fun H locs hP hS => ?_)
    exact tc_cri C0 hP hS h dXS_instruct_245
  have h := tc_in hc3 h
  by_cases hc4 : q1.1 = 61
  · have h := tc_ip hc4 h
    refine lv_lookup (off := 256) (tgt := 260) hx hb dXS_instruct_4 (by decide) (by rw [hc4]; decide) (by decide) ?_
    refine lv_aload_n hx hb dXS_instruct_260 rfl (lv_at hl 0 rfl) ?_
    refine lv_aload_n hx hb dXS_instruct_261 rfl (lv_at hl 0 rfl) ?_
    refine tc_cg8 C0 hP (tc_use hN tw_27) dXS_instruct_262 ?_
    refine lv_iconst (v := 1) hx hb dXS_instruct_265 (by decide) ?_
    refine lv_isub hx hb dXS_instruct_266 ?_
    obtain ⟨q267, e267, h⟩ := tc_bd_some h
    refine tc_cVi (As := [.int ((tc_gf q1.2 8) - 1)]) (rest := []) C0 (k_XS_count hJ e267) tv_XS_76 (by decide) (by decide) hP hS hl 2 rfl rfl (Nat.le_of_ble_eq_true rfl) dXS_instruct_267 rfl (fun H locs hP hS => ?_)
    exact tc_cri C0 hP hS h dXS_instruct_270
  have h := tc_in hc4 h
  by_cases hc5 : q1.1 = 62
  · have h := tc_ip hc5 h
    refine lv_lookup (off := 132) (tgt := 136) hx hb dXS_instruct_4 (by decide) (by rw [hc5]; decide) (by decide) ?_
    refine lv_aload_n hx hb dXS_instruct_136 rfl (lv_at hl 0 rfl) ?_
    refine lv_aload_n hx hb dXS_instruct_137 rfl (lv_at hl 0 rfl) ?_
    obtain ⟨q138, e138, h⟩ := tc_bd_some h
    refine tc_cVi (As := []) (rest := [.ref (ad 2)]) C0 (k_XS_nextByte hJ e138) tv_XS_59 (by decide) (by decide) hP hS hl 2 rfl rfl (Nat.le_of_ble_eq_true rfl) dXS_instruct_138 rfl (fun H locs hP hS => ?_)
    refine tc_cp8 C0 hJ hP hS (tc_use hN tw_27) dXS_instruct_141 (fun H locs hP hS => ?_)
    refine lv_bipush (v := 7) hx hb dXS_instruct_144 (by decide) ?_
    exact tc_cri C0 hP hS h dXS_instruct_146
  have h := tc_in hc5 h
  by_cases hc6 : q1.1 = 71
  · have h := tc_ip hc6 h
    refine lv_lookup (off := 201) (tgt := 205) hx hb dXS_instruct_4 (by decide) (by rw [hc6]; decide) (by decide) ?_
    refine lv_aload_n hx hb dXS_instruct_205 rfl (lv_at hl 0 rfl) ?_
    refine lv_aload_n hx hb dXS_instruct_206 rfl (lv_at hl 0 rfl) ?_
    refine tc_cg8 C0 hP (tc_use hN tw_27) dXS_instruct_207 ?_
    refine tc_cp9 C0 hJ hP hS (tc_use hN tw_29) dXS_instruct_210 (fun H locs hP hS => ?_)
    refine lv_iconst (v := 4) hx hb dXS_instruct_213 (by decide) ?_
    exact tc_cri C0 hP hS h dXS_instruct_214
  have h := tc_in hc6 h
  by_cases hc7 : q1.1 = 103
  · have h := tc_ip hc7 h
    refine lv_lookup (off := 221) (tgt := 225) hx hb dXS_instruct_4 (by decide) (by rw [hc7]; decide) (by decide) ?_
    refine lv_aload_n hx hb dXS_instruct_225 rfl (lv_at hl 0 rfl) ?_
    refine lv_aload_n hx hb dXS_instruct_226 rfl (lv_at hl 0 rfl) ?_
    refine tc_cg8 C0 hP (tc_use hN tw_27) dXS_instruct_227 ?_
    refine tc_cp10 C0 hJ hP hS (tc_use hN tw_31) dXS_instruct_230 (fun H locs hP hS => ?_)
    refine lv_iconst (v := 4) hx hb dXS_instruct_233 (by decide) ?_
    exact tc_cri C0 hP hS h dXS_instruct_234
  have h := tc_in hc7 h
  by_cases hc8 : q1.1 = 118
  · have h := tc_ip hc8 h
    refine lv_lookup (off := 267) (tgt := 271) hx hb dXS_instruct_4 (by decide) (by rw [hc8]; decide) (by decide) ?_
    refine lv_aload_n hx hb dXS_instruct_271 rfl (lv_at hl 0 rfl) ?_
    refine lv_iconst (v := 1) hx hb dXS_instruct_272 (by decide) ?_
    refine tc_cp13 C0 hJ hP hS (tc_use hN tw_36) ⟨by decide, by decide⟩ dXS_instruct_273 (fun H locs hP hS => ?_)
    refine lv_iconst (v := 4) hx hb dXS_instruct_276 (by decide) ?_
    exact tc_cri C0 hP hS h dXS_instruct_277
  have h := tc_in hc8 h
  by_cases hc9 : q1.1 = 120
  · have h := tc_ip hc9 h
    refine lv_lookup (off := 211) (tgt := 215) hx hb dXS_instruct_4 (by decide) (by rw [hc9]; decide) (by decide) ?_
    refine lv_aload_n hx hb dXS_instruct_215 rfl (lv_at hl 0 rfl) ?_
    refine lv_aload_n hx hb dXS_instruct_216 rfl (lv_at hl 0 rfl) ?_
    refine tc_cg9 C0 hP (tc_use hN tw_29) dXS_instruct_217 ?_
    refine tc_cp8 C0 hJ hP hS (tc_use hN tw_27) dXS_instruct_220 (fun H locs hP hS => ?_)
    refine lv_iconst (v := 4) hx hb dXS_instruct_223 (by decide) ?_
    exact tc_cri C0 hP hS h dXS_instruct_224
  have h := tc_in hc9 h
  by_cases hc10 : q1.1 = 128
  · have h := tc_ip hc10 h
    refine lv_lookup (off := 242) (tgt := 246) hx hb dXS_instruct_4 (by decide) (by rw [hc10]; decide) (by decide) ?_
    refine lv_aload_n hx hb dXS_instruct_246 rfl (lv_at hl 0 rfl) ?_
    refine lv_aload_n hx hb dXS_instruct_247 rfl (lv_at hl 0 rfl) ?_
    refine tc_cg8 C0 hP (tc_use hN tw_27) dXS_instruct_248 ?_
    refine lv_aload_n hx hb dXS_instruct_251 rfl (lv_at hl 0 rfl) ?_
    refine tc_cg9 C0 hP (tc_use hN tw_29) dXS_instruct_252 ?_
    refine lv_iadd hx hb dXS_instruct_255 ?_
    obtain ⟨q256, e256, h⟩ := tc_bd_some h
    refine tc_cVi (As := [.int ((tc_gf q1.2 8) + (tc_gf q1.2 9))]) (rest := []) C0 (k_XS_count hJ e256) tv_XS_76 (by decide) (by decide) hP hS hl 2 rfl rfl (Nat.le_of_ble_eq_true rfl) dXS_instruct_256 rfl (fun H locs hP hS => ?_)
    exact tc_cri C0 hP hS h dXS_instruct_259
  have h := tc_in hc10 h
  by_cases hc11 : q1.1 = 195
  · have h := tc_ip hc11 h
    refine lv_lookup (off := 179) (tgt := 183) hx hb dXS_instruct_4 (by decide) (by rw [hc11]; decide) (by decide) ?_
    refine lv_aload_n hx hb dXS_instruct_183 rfl (lv_at hl 0 rfl) ?_
    refine lv_aload_n hx hb dXS_instruct_184 rfl (lv_at hl 0 rfl) ?_
    obtain ⟨q185, e185, h⟩ := tc_bd_some h
    refine tc_cVi (As := []) (rest := [.ref (ad 2)]) C0 (k_XS_nextAddress hJ e185) tv_XS_62 (by decide) (by decide) hP hS hl 2 rfl rfl (Nat.le_of_ble_eq_true rfl) dXS_instruct_185 rfl (fun H locs hP hS => ?_)
    refine tc_cp11 C0 hJ hP hS (tc_use hN tw_33) dXS_instruct_188 (fun H locs hP hS => ?_)
    refine lv_bipush (v := 10) hx hb dXS_instruct_191 (by decide) ?_
    exact tc_cri C0 hP hS h dXS_instruct_193
  have h := tc_in hc11 h
  by_cases hc12 : q1.1 = 201
  · have h := tc_ip hc12 h
    refine lv_lookup (off := 190) (tgt := 194) hx hb dXS_instruct_4 (by decide) (by rw [hc12]; decide) (by decide) ?_
    refine lv_aload_n hx hb dXS_instruct_194 rfl (lv_at hl 0 rfl) ?_
    refine lv_aload_n hx hb dXS_instruct_195 rfl (lv_at hl 0 rfl) ?_
    refine tc_cg10 C0 hP (tc_use hN tw_31) dXS_instruct_196 ?_
    refine tc_cp11 C0 hJ hP hS (tc_use hN tw_33) dXS_instruct_199 (fun H locs hP hS => ?_)
    refine lv_bipush (v := 10) hx hb dXS_instruct_202 (by decide) ?_
    exact tc_cri C0 hP hS h dXS_instruct_204
  have h := tc_in hc12 h
  by_cases hc13 : q1.1 = 243
  · have h := tc_ip hc13 h
    refine lv_lookup (off := 281) (tgt := 285) hx hb dXS_instruct_4 (by decide) (by rw [hc13]; decide) (by decide) ?_
    refine lv_aload_n hx hb dXS_instruct_285 rfl (lv_at hl 0 rfl) ?_
    refine lv_iconst (v := 0) hx hb dXS_instruct_286 (by decide) ?_
    refine tc_cp14 C0 hJ hP hS (tc_use hN tw_37) ⟨by decide, by decide⟩ dXS_instruct_287 (fun H locs hP hS => ?_)
    refine lv_iconst (v := 4) hx hb dXS_instruct_290 (by decide) ?_
    exact tc_cri C0 hP hS h dXS_instruct_291
  have h := tc_in hc13 h
  by_cases hc14 : q1.1 = 251
  · have h := tc_ip hc14 h
    refine lv_lookup (off := 274) (tgt := 278) hx hb dXS_instruct_4 (by decide) (by rw [hc14]; decide) (by decide) ?_
    refine lv_aload_n hx hb dXS_instruct_278 rfl (lv_at hl 0 rfl) ?_
    refine lv_iconst (v := 1) hx hb dXS_instruct_279 (by decide) ?_
    refine tc_cp14 C0 hJ hP hS (tc_use hN tw_37) ⟨by decide, by decide⟩ dXS_instruct_280 (fun H locs hP hS => ?_)
    refine lv_iconst (v := 4) hx hb dXS_instruct_283 (by decide) ?_
    exact tc_cri C0 hP hS h dXS_instruct_284
  have h := tc_in hc14 h
  refine lv_lookup (off := 288) (tgt := 292) hx hb dXS_instruct_4 (by decide) (by show Op.lookupswitch.offset [(32, 169), (50, 143), (58, 154), (60, 231), (61, 256), (62, 132), (71, 201), (103, 221), (118, 267), (120, 211), (128, 242), (195, 179), (201, 190), (243, 281), (251, 274)] _ _ = _; rw [lv_osw (a := 32) hc0 (by decide), lv_osw (a := 50) hc1 (by decide), lv_osw (a := 58) hc2 (by decide), lv_osw (a := 60) hc3 (by decide), lv_osw (a := 61) hc4 (by decide), lv_osw (a := 62) hc5 (by decide), lv_osw (a := 71) hc6 (by decide), lv_osw (a := 103) hc7 (by decide), lv_osw (a := 118) hc8 (by decide), lv_osw (a := 120) hc9 (by decide), lv_osw (a := 128) hc10 (by decide), lv_osw (a := 195) hc11 (by decide), lv_osw (a := 201) hc12 (by decide), lv_osw (a := 243) hc13 (by decide), lv_osw (a := 251) hc14 (by decide)]; rfl) (by decide) ?_
  refine lv_iconst (v := 4) hx hb dXS_instruct_292 (by decide) ?_
  exact tc_cri C0 hP hS h dXS_instruct_293
theorem k_XS_instruct (hJ : ∀ σ, va_D A (tc_cW ad cA σ)) {σ : tc_S} {q : Int32 × tc_S} (h : m_XS_instruct σ = some q) : Met l yXS_instruct [.code yXS_instruct cXS_instruct 1 (some .int)] (tc_R 3) (tc_Pc D cA (tc_cW ad cA σ) [.ref (ad 2)]) (tc_Qi D (tc_cW ad cA q.2) A q.1) 0 0 A :=
  tc_met (by decide) (Nat.le_of_ble_eq_true rfl) (fun _ _ _ _ _ _ _ C hP _ hl => w_XS_instruct_0 C hJ h hP va_S.rf hl)
def m_XS_give_64 (σ : tc_S) : Option (tc_S) := (some σ)
set_option maxHeartbeats 4000000 in
set_option maxRecDepth 100000 in
theorem w_XS_give_64 (C : tc_C p s m args meth c RXS cXS_give 4 none D cA) (hJ : ∀ σ, va_D A (tc_cW ad cA σ)) {q : tc_S} {σ : tc_S} {H : Heap} {locs : List Loc} {ls : Array Slot} (h : m_XS_give_64 σ = some q) (hP : va_P D vwCl (tc_cW ad cA σ) H) (hS : va_S A s.heap H locs) (hl : lv_has ls 4 []) : W p l e (tc_R 4) s m args below meth c H locs 0 0 (MQ below (tc_Qv D (tc_cW ad cA q) A) args s 0 0 A) (F0 m 64 ls []) := by
  have C0 := C
  obtain ⟨hx, hb, hml, hown, ⟨hK, hN⟩, hr, hlk⟩ := C
  unfold m_XS_give_64 at h
  exact tc_crv C0 hP hS h dXS_give_64
def m_XS_give_47 (Z : tc_S → Int32 → Int32 → Option (tc_S)) (σ : tc_S) (l1 l2 k0 : Int32) : Option (tc_S) := (Z (tc_sf σ 17 ((tc_gf σ 17) - k0)) l1 (l2 + 1))
set_option maxHeartbeats 4000000 in
set_option maxRecDepth 100000 in
theorem w_XS_give_47 (C : tc_C p s m args meth c RXS cXS_give 4 none D cA) (hJ : ∀ σ, va_D A (tc_cW ad cA σ)) {q : tc_S} {Z : tc_S → Int32 → Int32 → Option (tc_S)} (hZ : ∀ {σ : tc_S} {l1 l2 : Int32} {H : Heap} {locs : List Loc} {ls : Array Slot}, Z σ l1 l2 = some q → va_P D vwCl (tc_cW ad cA σ) H → va_S A s.heap H locs → lv_has ls 4 [(0, .ref (ad 2)), (1, .int l1), (2, .int l2)] → W p l e (tc_R 4) s m args below meth c H locs 0 0 (MQ below (tc_Qv D (tc_cW ad cA q) A) args s 0 0 A) (F0 m 20 ls [])) {σ : tc_S} {l1 l2 k0 : Int32} {H : Heap} {locs : List Loc} {ls : Array Slot} (h : m_XS_give_47 Z σ l1 l2 k0 = some q) (hP : va_P D vwCl (tc_cW ad cA σ) H) (hS : va_S A s.heap H locs) (hl : lv_has ls 4 [(0, .ref (ad 2)), (1, .int l1), (2, .int l2)]) : W p l e (tc_R 4) s m args below meth c H locs 0 0 (MQ below (tc_Qv D (tc_cW ad cA q) A) args s 0 0 A) (F0 m 47 ls [.int k0]) := by
  have C0 := C
  obtain ⟨hx, hb, hml, hown, ⟨hK, hN⟩, hr, hlk⟩ := C
  unfold m_XS_give_47 at h
  refine lv_istore_n (lv' := [(3, .int k0), (0, .ref (ad 2)), (1, .int l1), (2, .int l2)]) hx hb dXS_give_47 rfl hl (by decide) rfl (fun ls hl => ?_)
  refine lv_aload_n hx hb dXS_give_48 rfl (lv_at hl 1 rfl) ?_
  refine lv_dup hx hb dXS_give_49 rfl ?_
  refine tc_cg17 C0 hP (tc_use hN tw_41) dXS_give_50 ?_
  refine lv_iload_n hx hb dXS_give_53 rfl (lv_at hl 0 rfl) ?_
  refine lv_isub hx hb dXS_give_54 ?_
  refine tc_cp17 C0 hJ hP hS (tc_use hN tw_41) dXS_give_55 (fun H locs hP hS => ?_)
  refine lv_iinc (k := 3) (v := (l2 + 1)) (lv' := [(2, .int (l2 + 1)), (3, .int k0), (0, .ref (ad 2)), (1, .int l1)]) hx hb dXS_give_58 hl rfl rfl (by decide) rfl (fun ls hl => ?_)
  refine lv_goto (tgt := 20) hx hb dXS_give_61 (by decide) ?_
  exact hZ h hP hS (lv_sub hl [2, 3, 0] rfl)
def m_XS_give_20 : Nat → tc_S → Int32 → Int32 → Option (tc_S)
  | 0, _, _, _ => none
  | n + 1, σ, l1, l2 => (if l1 ≤ l2 then (m_XS_give_64 σ) else (if (tc_gf σ 17) ≤ 0 then (m_XS_give_64 σ) else (if (tc_gf σ 13) = 0 then ((m_XS_instruct σ).bind (fun q44 => (m_XS_give_47 (m_XS_give_20 n) q44.2 l1 l2 q44.1))) else (m_XS_give_47 (m_XS_give_20 n) σ l1 l2 4))))
set_option maxHeartbeats 4000000 in
set_option maxRecDepth 100000 in
theorem w_XS_give_20 (C : tc_C p s m args meth c RXS cXS_give 4 none D cA) (hJ : ∀ σ, va_D A (tc_cW ad cA σ)) {q : tc_S} : ∀ (n : Nat) {σ : tc_S} {l1 l2 : Int32} {H : Heap} {locs : List Loc} {ls : Array Slot} (h : m_XS_give_20 n σ l1 l2 = some q) (hP : va_P D vwCl (tc_cW ad cA σ) H) (hS : va_S A s.heap H locs) (hl : lv_has ls 4 [(0, .ref (ad 2)), (1, .int l1), (2, .int l2)]), W p l e (tc_R 4) s m args below meth c H locs 0 0 (MQ below (tc_Qv D (tc_cW ad cA q) A) args s 0 0 A) (F0 m 20 ls []) := by
  have C0 := C
  obtain ⟨hx, hb, hml, hown, ⟨hK, hN⟩, hr, hlk⟩ := C
  intro n
  induction n with
  | zero =>
    intro σ l1 l2 H locs ls h hP hS hl
    exact absurd h (by simp [m_XS_give_20])
  | succ n ih =>
    intro σ l1 l2 H locs ls h hP hS hl
    unfold m_XS_give_20 at h
    refine lv_iload_n hx hb dXS_give_20 rfl (lv_at hl 2 rfl) ?_
    refine lv_iload_n hx hb dXS_give_21 rfl (lv_at hl 1 rfl) ?_
    refine lv_icmp_ge (tgt := 64) hx hb dXS_give_22 (by decide) (fun hc => ?_) (fun hc => ?_)
    · have h := tc_ip hc h
      exact w_XS_give_64 C0 hJ h hP hS (lv_sub hl [] rfl)
    · have h := tc_in hc h
      refine lv_aload_n hx hb dXS_give_25 rfl (lv_at hl 0 rfl) ?_
      refine tc_cg17 C0 hP (tc_use hN tw_41) dXS_give_26 ?_
      refine lv_if_le (tgt := 64) hx hb dXS_give_29 (by decide) (fun hc => ?_) (fun hc => ?_)
      · have h := tc_ip hc h
        exact w_XS_give_64 C0 hJ h hP hS (lv_sub hl [] rfl)
      · have h := tc_in hc h
        refine lv_aload_n hx hb dXS_give_32 rfl (lv_at hl 0 rfl) ?_
        refine tc_cg13 C0 hP (tc_use hN tw_36) dXS_give_33 ?_
        refine lv_if_eq (tgt := 43) hx hb dXS_give_36 (by decide) (fun hc => ?_) (fun hc => ?_)
        · have h := tc_ip hc h
          refine lv_aload_n hx hb dXS_give_43 rfl (lv_at hl 0 rfl) ?_
          obtain ⟨q44, e44, h⟩ := tc_bd_some h
          refine tc_cVi (As := []) (rest := []) C0 (k_XS_instruct hJ e44) tv_XS_55 (by decide) (by decide) hP hS hl 2 rfl rfl (Nat.le_of_ble_eq_true rfl) dXS_give_44 rfl (fun H locs hP hS => ?_)
          exact w_XS_give_47 C0 hJ (fun h hP hS hl => ih h hP hS hl) h hP hS (lv_sub hl [0, 1, 2] rfl)
        · have h := tc_in hc h
          refine lv_iconst (v := 4) hx hb dXS_give_39 (by decide) ?_
          refine lv_goto (tgt := 47) hx hb dXS_give_40 (by decide) ?_
          exact w_XS_give_47 C0 hJ (fun h hP hS hl => ih h hP hS hl) h hP hS (lv_sub hl [0, 1, 2] rfl)
def m_XS_give (σ : tc_S) (l1 : Int32) : Option (tc_S) := ((m_XS_stands σ).bind (fun q1 => (if q1.1 = 0 then (m_XS_give_20 2000 (tc_sf q1.2 17 ((tc_gf q1.2 17) + l1)) l1 0) else (some q1.2))))
set_option maxHeartbeats 4000000 in
set_option maxRecDepth 100000 in
theorem w_XS_give_0 (C : tc_C p s m args meth c RXS cXS_give 4 none D cA) (hJ : ∀ σ, va_D A (tc_cW ad cA σ)) {q : tc_S} {σ : tc_S} {l1 : Int32} {H : Heap} {locs : List Loc} {ls : Array Slot} (h : m_XS_give σ l1 = some q) (hP : va_P D vwCl (tc_cW ad cA σ) H) (hS : va_S A s.heap H locs) (hl : lv_has ls 4 [(0, .ref (ad 2)), (1, .int l1)]) : W p l e (tc_R 4) s m args below meth c H locs 0 0 (MQ below (tc_Qv D (tc_cW ad cA q) A) args s 0 0 A) (F0 m 0 ls []) := by
  have C0 := C
  obtain ⟨hx, hb, hml, hown, ⟨hK, hN⟩, hr, hlk⟩ := C
  unfold m_XS_give at h
  refine lv_aload_n hx hb dXS_give_0 rfl (lv_at hl 0 rfl) ?_
  obtain ⟨q1, e1, h⟩ := tc_bd_some h
  refine tc_cVi (As := []) (rest := []) C0 (k_XS_stands hJ e1) tv_XS_51 (by decide) (by decide) hP hS hl 2 rfl rfl (Nat.le_of_ble_eq_true rfl) dXS_give_1 rfl (fun H locs hP hS => ?_)
  refine lv_if_eq (tgt := 8) hx hb dXS_give_4 (by decide) (fun hc => ?_) (fun hc => ?_)
  · have h := tc_ip hc h
    refine lv_aload_n hx hb dXS_give_8 rfl (lv_at hl 0 rfl) ?_
    refine lv_dup hx hb dXS_give_9 rfl ?_
    refine tc_cg17 C0 hP (tc_use hN tw_41) dXS_give_10 ?_
    refine lv_iload_n hx hb dXS_give_13 rfl (lv_at hl 1 rfl) ?_
    refine lv_iadd hx hb dXS_give_14 ?_
    refine tc_cp17 C0 hJ hP hS (tc_use hN tw_41) dXS_give_15 (fun H locs hP hS => ?_)
    refine lv_iconst (v := 0) hx hb dXS_give_18 (by decide) ?_
    refine lv_istore_n (lv' := [(2, .int 0), (0, .ref (ad 2)), (1, .int l1)]) hx hb dXS_give_19 rfl hl (by decide) rfl (fun ls hl => ?_)
    exact w_XS_give_20 C0 hJ _ h hP hS (lv_sub hl [1, 2, 0] rfl)
  · have h := tc_in hc h
    exact tc_crv C0 hP hS h dXS_give_7
theorem k_XS_give (hJ : ∀ σ, va_D A (tc_cW ad cA σ)) {σ : tc_S} {l1 : Int32} {q : tc_S} (h : m_XS_give σ l1 = some q) : Met l yXS_give [.code yXS_give cXS_give 4 none] (tc_R 4) (tc_Pc D cA (tc_cW ad cA σ) [.ref (ad 2), .int l1]) (tc_Qv D (tc_cW ad cA q) A) 0 0 A :=
  tc_met (by decide) (Nat.le_of_ble_eq_true rfl) (fun _ _ _ _ _ _ _ C hP _ hl => w_XS_give_0 C hJ h hP va_S.rf hl)
def m_XS_tellLine8_14 (σ : tc_S) : Option (tc_S) := (some σ)
set_option maxHeartbeats 4000000 in
set_option maxRecDepth 100000 in
theorem w_XS_tellLine8_14 (C : tc_C p s m args meth c RXS cXS_tellLine8 1 none D cA) (hJ : ∀ σ, va_D A (tc_cW ad cA σ)) {q : tc_S} {σ : tc_S} {H : Heap} {locs : List Loc} {ls : Array Slot} (h : m_XS_tellLine8_14 σ = some q) (hP : va_P D vwCl (tc_cW ad cA σ) H) (hS : va_S A s.heap H locs) (hl : lv_has ls 1 []) : W p l e (tc_R 1) s m args below meth c H locs 0 0 (MQ below (tc_Qv D (tc_cW ad cA q) A) args s 0 0 A) (F0 m 14 ls []) := by
  have C0 := C
  obtain ⟨hx, hb, hml, hown, ⟨hK, hN⟩, hr, hlk⟩ := C
  unfold m_XS_tellLine8_14 at h
  exact tc_crv C0 hP hS h dXS_tellLine8_14
def m_XS_tellLine8 (σ : tc_S) : Option (tc_S) := ((m_XS_stands σ).bind (fun q1 => (if q1.1 = 0 then (if (tc_gf q1.2 14) = 0 then (m_XS_tellLine8_14 q1.2) else (some (tc_sf (tc_sf (tc_sf (tc_sf (tc_sf q1.2 10 ((tc_gf q1.2 11) &&& 255)) 11 56) 14 0) 13 0) 17 ((tc_gf (tc_sf (tc_sf (tc_sf (tc_sf q1.2 10 ((tc_gf q1.2 11) &&& 255)) 11 56) 14 0) 13 0) 17) - 13)))) else (m_XS_tellLine8_14 q1.2))))
set_option maxHeartbeats 4000000 in
set_option maxRecDepth 100000 in
theorem w_XS_tellLine8_0 (C : tc_C p s m args meth c RXS cXS_tellLine8 1 none D cA) (hJ : ∀ σ, va_D A (tc_cW ad cA σ)) {q : tc_S} {σ : tc_S} {H : Heap} {locs : List Loc} {ls : Array Slot} (h : m_XS_tellLine8 σ = some q) (hP : va_P D vwCl (tc_cW ad cA σ) H) (hS : va_S A s.heap H locs) (hl : lv_has ls 1 [(0, .ref (ad 2))]) : W p l e (tc_R 1) s m args below meth c H locs 0 0 (MQ below (tc_Qv D (tc_cW ad cA q) A) args s 0 0 A) (F0 m 0 ls []) := by
  have C0 := C
  obtain ⟨hx, hb, hml, hown, ⟨hK, hN⟩, hr, hlk⟩ := C
  unfold m_XS_tellLine8 at h
  refine lv_aload_n hx hb dXS_tellLine8_0 rfl (lv_at hl 0 rfl) ?_
  obtain ⟨q1, e1, h⟩ := tc_bd_some h
  refine tc_cVi (As := []) (rest := []) C0 (k_XS_stands hJ e1) tv_XS_51 (by decide) (by decide) hP hS hl 2 rfl rfl (Nat.le_of_ble_eq_true rfl) dXS_tellLine8_1 rfl (fun H locs hP hS => ?_)
  refine lv_if_ne (tgt := 14) hx hb dXS_tellLine8_4 (by decide) (fun hc => ?_) (fun hc => ?_)
  · have h := tc_in hc h
    exact w_XS_tellLine8_14 C0 hJ h hP hS (lv_sub hl [] rfl)
  · have h := tc_ip hc h
    refine lv_aload_n hx hb dXS_tellLine8_7 rfl (lv_at hl 0 rfl) ?_
    refine tc_cg14 C0 hP (tc_use hN tw_37) dXS_tellLine8_8 ?_
    refine lv_if_ne (tgt := 15) hx hb dXS_tellLine8_11 (by decide) (fun hc => ?_) (fun hc => ?_)
    · have h := tc_in hc h
      refine lv_aload_n hx hb dXS_tellLine8_15 rfl (lv_at hl 0 rfl) ?_
      refine lv_aload_n hx hb dXS_tellLine8_16 rfl (lv_at hl 0 rfl) ?_
      refine tc_cg11 C0 hP (tc_use hN tw_33) dXS_tellLine8_17 ?_
      refine lv_sipush (v := 255) hx hb dXS_tellLine8_20 (by decide) ?_
      refine lv_iand hx hb dXS_tellLine8_23 ?_
      refine tc_cp10 C0 hJ hP hS (tc_use hN tw_31) dXS_tellLine8_24 (fun H locs hP hS => ?_)
      refine lv_aload_n hx hb dXS_tellLine8_27 rfl (lv_at hl 0 rfl) ?_
      refine lv_bipush (v := 56) hx hb dXS_tellLine8_28 (by decide) ?_
      refine tc_cp11 C0 hJ hP hS (tc_use hN tw_33) dXS_tellLine8_30 (fun H locs hP hS => ?_)
      refine lv_aload_n hx hb dXS_tellLine8_33 rfl (lv_at hl 0 rfl) ?_
      refine lv_iconst (v := 0) hx hb dXS_tellLine8_34 (by decide) ?_
      refine tc_cp14 C0 hJ hP hS (tc_use hN tw_37) ⟨by decide, by decide⟩ dXS_tellLine8_35 (fun H locs hP hS => ?_)
      refine lv_aload_n hx hb dXS_tellLine8_38 rfl (lv_at hl 0 rfl) ?_
      refine lv_iconst (v := 0) hx hb dXS_tellLine8_39 (by decide) ?_
      refine tc_cp13 C0 hJ hP hS (tc_use hN tw_36) ⟨by decide, by decide⟩ dXS_tellLine8_40 (fun H locs hP hS => ?_)
      refine lv_aload_n hx hb dXS_tellLine8_43 rfl (lv_at hl 0 rfl) ?_
      refine lv_dup hx hb dXS_tellLine8_44 rfl ?_
      refine tc_cg17 C0 hP (tc_use hN tw_41) dXS_tellLine8_45 ?_
      refine lv_bipush (v := 13) hx hb dXS_tellLine8_48 (by decide) ?_
      refine lv_isub hx hb dXS_tellLine8_50 ?_
      refine tc_cp17 C0 hJ hP hS (tc_use hN tw_41) dXS_tellLine8_51 (fun H locs hP hS => ?_)
      exact tc_crv C0 hP hS h dXS_tellLine8_54
    · have h := tc_ip hc h
      exact w_XS_tellLine8_14 C0 hJ h hP hS (lv_sub hl [] rfl)
theorem k_XS_tellLine8 (hJ : ∀ σ, va_D A (tc_cW ad cA σ)) {σ : tc_S} {q : tc_S} (h : m_XS_tellLine8 σ = some q) : Met l yXS_tellLine8 [.code yXS_tellLine8 cXS_tellLine8 1 none] (tc_R 1) (tc_Pc D cA (tc_cW ad cA σ) [.ref (ad 2)]) (tc_Qv D (tc_cW ad cA q) A) 0 0 A :=
  tc_met (by decide) (Nat.le_of_ble_eq_true rfl) (fun _ _ _ _ _ _ _ C hP _ hl => w_XS_tellLine8_0 C hJ h hP va_S.rf hl)
def m_XB_beginHiddenLine_61 (σ : tc_S) : Option (tc_S) := (some σ)
set_option maxHeartbeats 4000000 in
set_option maxRecDepth 100000 in
theorem w_XB_beginHiddenLine_61 (C : tc_C p s m args meth c RXB cXB_beginHiddenLine 1 none D cA) (hJ : ∀ σ, va_D A (tc_cW ad cA σ)) {q : tc_S} {σ : tc_S} {H : Heap} {locs : List Loc} {ls : Array Slot} (h : m_XB_beginHiddenLine_61 σ = some q) (hP : va_P D vwCl (tc_cW ad cA σ) H) (hS : va_S A s.heap H locs) (hl : lv_has ls 1 []) : W p l e (tc_R 2) s m args below meth c H locs 0 0 (MQ below (tc_Qv D (tc_cW ad cA q) A) args s 0 0 A) (F0 m 61 ls []) := by
  have C0 := C
  obtain ⟨hx, hb, hml, hown, ⟨hK, hN⟩, hr, hlk⟩ := C
  unfold m_XB_beginHiddenLine_61 at h
  exact tc_crv C0 hP hS h dXB_beginHiddenLine_61
def m_XB_beginHiddenLine_51 (σ : tc_S) (k0 : Int32) : Option (tc_S) := (tc_gb k0 ((m_XS_tellLine8 (tc_sf σ 31 k0)).bind (fun q58 => (m_XB_beginHiddenLine_61 q58))))
set_option maxHeartbeats 4000000 in
set_option maxRecDepth 100000 in
theorem w_XB_beginHiddenLine_51 (C : tc_C p s m args meth c RXB cXB_beginHiddenLine 1 none D cA) (hJ : ∀ σ, va_D A (tc_cW ad cA σ)) {q : tc_S} {σ : tc_S} {k0 : Int32} {H : Heap} {locs : List Loc} {ls : Array Slot} (h : m_XB_beginHiddenLine_51 σ k0 = some q) (hP : va_P D vwCl (tc_cW ad cA σ) H) (hS : va_S A s.heap H locs) (hl : lv_has ls 1 [(0, .ref (ad 4))]) : W p l e (tc_R 2) s m args below meth c H locs 0 0 (MQ below (tc_Qv D (tc_cW ad cA q) A) args s 0 0 A) (F0 m 51 ls [.int k0, .ref (ad 4)]) := by
  have C0 := C
  obtain ⟨hx, hb, hml, hown, ⟨hK, hN⟩, hr, hlk⟩ := C
  unfold m_XB_beginHiddenLine_51 at h
  obtain ⟨hz, h⟩ := tc_gb_some h
  refine tc_cp31 C0 hJ hP hS (tc_use hN tw_172) hz dXB_beginHiddenLine_51 (fun H locs hP hS => ?_)
  refine lv_aload_n hx hb dXB_beginHiddenLine_54 rfl (lv_at hl 0 rfl) ?_
  refine tc_cr_XB_second C0 hP (tc_use hN tw_164) dXB_beginHiddenLine_55 ?_
  obtain ⟨q58, e58, h⟩ := tc_bd_some h
  refine tc_cVv (As := []) (rest := []) C0 (k_XS_tellLine8 hJ e58) tv_XB_56 (by decide) (by decide) hP hS hl 2 rfl rfl (Nat.le_of_ble_eq_true rfl) dXB_beginHiddenLine_58 rfl (fun H locs hP hS => ?_)
  exact w_XB_beginHiddenLine_61 C0 hJ h hP hS (lv_sub hl [] rfl)
def m_XB_beginHiddenLine_46 (σ : tc_S) : Option (tc_S) := (m_XB_beginHiddenLine_51 σ 1)
set_option maxHeartbeats 4000000 in
set_option maxRecDepth 100000 in
theorem w_XB_beginHiddenLine_46 (C : tc_C p s m args meth c RXB cXB_beginHiddenLine 1 none D cA) (hJ : ∀ σ, va_D A (tc_cW ad cA σ)) {q : tc_S} {σ : tc_S} {H : Heap} {locs : List Loc} {ls : Array Slot} (h : m_XB_beginHiddenLine_46 σ = some q) (hP : va_P D vwCl (tc_cW ad cA σ) H) (hS : va_S A s.heap H locs) (hl : lv_has ls 1 [(0, .ref (ad 4))]) : W p l e (tc_R 2) s m args below meth c H locs 0 0 (MQ below (tc_Qv D (tc_cW ad cA q) A) args s 0 0 A) (F0 m 46 ls [.ref (ad 4)]) := by
  have C0 := C
  obtain ⟨hx, hb, hml, hown, ⟨hK, hN⟩, hr, hlk⟩ := C
  unfold m_XB_beginHiddenLine_46 at h
  refine lv_iconst (v := 1) hx hb dXB_beginHiddenLine_46 (by decide) ?_
  refine lv_goto (tgt := 51) hx hb dXB_beginHiddenLine_47 (by decide) ?_
  exact w_XB_beginHiddenLine_51 C0 hJ h hP hS (lv_sub hl [0] rfl)
def m_XB_beginHiddenLine (σ : tc_S) : Option (tc_S) := (tc_gd 8 16 (if (tc_gf (tc_sf σ 29 (tc_ga σ 5 8)) 27) = 8 then (if (tc_gf (tc_sf σ 29 (tc_ga σ 5 8)) 31) = 0 then (tc_gd 1 16 (if ((tc_ga (tc_sf σ 29 (tc_ga σ 5 8)) 5 1) &&& 32) = 0 then (m_XB_beginHiddenLine_51 (tc_sf σ 29 (tc_ga σ 5 8)) 0) else (m_XB_beginHiddenLine_46 (tc_sf σ 29 (tc_ga σ 5 8))))) else (m_XB_beginHiddenLine_46 (tc_sf σ 29 (tc_ga σ 5 8)))) else (m_XB_beginHiddenLine_61 (tc_sf σ 29 (tc_ga σ 5 8)))))
set_option maxHeartbeats 4000000 in
set_option maxRecDepth 100000 in
theorem w_XB_beginHiddenLine_0 (C : tc_C p s m args meth c RXB cXB_beginHiddenLine 1 none D cA) (hJ : ∀ σ, va_D A (tc_cW ad cA σ)) {q : tc_S} {σ : tc_S} {H : Heap} {locs : List Loc} {ls : Array Slot} (h : m_XB_beginHiddenLine σ = some q) (hP : va_P D vwCl (tc_cW ad cA σ) H) (hS : va_S A s.heap H locs) (hl : lv_has ls 1 [(0, .ref (ad 4))]) : W p l e (tc_R 2) s m args below meth c H locs 0 0 (MQ below (tc_Qv D (tc_cW ad cA q) A) args s 0 0 A) (F0 m 0 ls []) := by
  have C0 := C
  obtain ⟨hx, hb, hml, hown, ⟨hK, hN⟩, hr, hlk⟩ := C
  unfold m_XB_beginHiddenLine at h
  refine lv_aload_n hx hb dXB_beginHiddenLine_0 rfl (lv_at hl 0 rfl) ?_
  refine lv_aload_n hx hb dXB_beginHiddenLine_1 rfl (lv_at hl 0 rfl) ?_
  refine tc_cr_XB_picture C0 hP (tc_use hN tw_162) dXB_beginHiddenLine_2 ?_
  refine tc_crN_XP_registers C0 hP (tc_use hN tw_85) dXB_beginHiddenLine_5 ?_
  refine lv_bipush (v := 8) hx hb dXB_beginHiddenLine_8 (by decide) ?_
  obtain ⟨hi, h⟩ := tc_gd_some h
  refine tc_cld14 C0 hP hi dXB_beginHiddenLine_10 ?_
  refine tc_cp29 C0 hJ hP hS (tc_use hN tw_169) dXB_beginHiddenLine_11 (fun H locs hP hS => ?_)
  refine lv_aload_n hx hb dXB_beginHiddenLine_14 rfl (lv_at hl 0 rfl) ?_
  refine tc_cg27 C0 hP (tc_use hN tw_166) dXB_beginHiddenLine_15 ?_
  refine lv_bipush (v := 8) hx hb dXB_beginHiddenLine_18 (by decide) ?_
  refine lv_icmp_ne (tgt := 61) hx hb dXB_beginHiddenLine_20 (by decide) (fun hc => ?_) (fun hc => ?_)
  · have h := tc_in hc h
    exact w_XB_beginHiddenLine_61 C0 hJ h hP hS (lv_sub hl [] rfl)
  · have h := tc_ip hc h
    refine lv_aload_n hx hb dXB_beginHiddenLine_23 rfl (lv_at hl 0 rfl) ?_
    refine lv_aload_n hx hb dXB_beginHiddenLine_24 rfl (lv_at hl 0 rfl) ?_
    refine tc_cg31 C0 hP (tc_use hN tw_172) dXB_beginHiddenLine_25 ?_
    refine lv_if_ne (tgt := 46) hx hb dXB_beginHiddenLine_28 (by decide) (fun hc => ?_) (fun hc => ?_)
    · have h := tc_in hc h
      exact w_XB_beginHiddenLine_46 C0 hJ h hP hS (lv_sub hl [0] rfl)
    · have h := tc_ip hc h
      refine lv_aload_n hx hb dXB_beginHiddenLine_31 rfl (lv_at hl 0 rfl) ?_
      refine tc_cr_XB_picture C0 hP (tc_use hN tw_162) dXB_beginHiddenLine_32 ?_
      refine tc_crN_XP_registers C0 hP (tc_use hN tw_85) dXB_beginHiddenLine_35 ?_
      refine lv_iconst (v := 1) hx hb dXB_beginHiddenLine_38 (by decide) ?_
      obtain ⟨hi, h⟩ := tc_gd_some h
      refine tc_cld14 C0 hP hi dXB_beginHiddenLine_39 ?_
      refine lv_bipush (v := 32) hx hb dXB_beginHiddenLine_40 (by decide) ?_
      refine lv_iand hx hb dXB_beginHiddenLine_42 ?_
      refine lv_if_eq (tgt := 50) hx hb dXB_beginHiddenLine_43 (by decide) (fun hc => ?_) (fun hc => ?_)
      · have h := tc_ip hc h
        refine lv_iconst (v := 0) hx hb dXB_beginHiddenLine_50 (by decide) ?_
        exact w_XB_beginHiddenLine_51 C0 hJ h hP hS (lv_sub hl [0] rfl)
      · have h := tc_in hc h
        exact w_XB_beginHiddenLine_46 C0 hJ h hP hS (lv_sub hl [0] rfl)
theorem k_XB_beginHiddenLine (hJ : ∀ σ, va_D A (tc_cW ad cA σ)) {σ : tc_S} {q : tc_S} (h : m_XB_beginHiddenLine σ = some q) : Met l yXB_beginHiddenLine [.code yXB_beginHiddenLine cXB_beginHiddenLine 1 none] (tc_R 2) (tc_Pc D cA (tc_cW ad cA σ) [.ref (ad 4)]) (tc_Qv D (tc_cW ad cA q) A) 0 0 A :=
  tc_met (by decide) (Nat.le_of_ble_eq_true rfl) (fun _ _ _ _ _ _ _ C hP _ hl => w_XB_beginHiddenLine_0 C hJ h hP va_S.rf hl)
def m_XD_foremost_39 (σ : tc_S) (k0 : Int32) : Option (Int32 × tc_S) := (some (k0, σ))
set_option maxHeartbeats 4000000 in
set_option maxRecDepth 100000 in
theorem w_XD_foremost_39 (C : tc_C p s m args meth c RXD cXD_foremost 3 (some .int) D cA) (hJ : ∀ σ, va_D A (tc_cW ad cA σ)) {q : Int32 × tc_S} {σ : tc_S} {k0 : Int32} {H : Heap} {locs : List Loc} {ls : Array Slot} (h : m_XD_foremost_39 σ k0 = some q) (hP : va_P D vwCl (tc_cW ad cA σ) H) (hS : va_S A s.heap H locs) (hl : lv_has ls 3 []) : W p l e (tc_R 0) s m args below meth c H locs 0 0 (MQ below (tc_Qi D (tc_cW ad cA q.2) A q.1) args s 0 0 A) (F0 m 39 ls [.int k0]) := by
  have C0 := C
  obtain ⟨hx, hb, hml, hown, ⟨hK, hN⟩, hr, hlk⟩ := C
  unfold m_XD_foremost_39 at h
  exact tc_cri C0 hP hS h dXD_foremost_39
def m_XD_foremost (σ : tc_S) (l0 l1 l2 : Int32) : Option (Int32 × tc_S) := (if l0 ≤ 16 then (if l1 ≤ 16 then (if l2 ≤ 16 then (if l0 = 0 then (if l1 = 0 then (m_XD_foremost_39 σ l2) else (m_XD_foremost_39 σ l1)) else (some (l0, σ))) else (some (l2, σ))) else (some (l1, σ))) else (some (l0, σ)))
set_option maxHeartbeats 4000000 in
set_option maxRecDepth 100000 in
theorem w_XD_foremost_0 (C : tc_C p s m args meth c RXD cXD_foremost 3 (some .int) D cA) (hJ : ∀ σ, va_D A (tc_cW ad cA σ)) {q : Int32 × tc_S} {σ : tc_S} {l0 l1 l2 : Int32} {H : Heap} {locs : List Loc} {ls : Array Slot} (h : m_XD_foremost σ l0 l1 l2 = some q) (hP : va_P D vwCl (tc_cW ad cA σ) H) (hS : va_S A s.heap H locs) (hl : lv_has ls 3 [(0, .int l0), (1, .int l1), (2, .int l2)]) : W p l e (tc_R 0) s m args below meth c H locs 0 0 (MQ below (tc_Qi D (tc_cW ad cA q.2) A q.1) args s 0 0 A) (F0 m 0 ls []) := by
  have C0 := C
  obtain ⟨hx, hb, hml, hown, ⟨hK, hN⟩, hr, hlk⟩ := C
  unfold m_XD_foremost at h
  refine lv_iload_n hx hb dXD_foremost_0 rfl (lv_at hl 0 rfl) ?_
  refine lv_bipush (v := 16) hx hb dXD_foremost_1 (by decide) ?_
  refine lv_icmp_le (tgt := 8) hx hb dXD_foremost_3 (by decide) (fun hc => ?_) (fun hc => ?_)
  · have h := tc_ip hc h
    refine lv_iload_n hx hb dXD_foremost_8 rfl (lv_at hl 1 rfl) ?_
    refine lv_bipush (v := 16) hx hb dXD_foremost_9 (by decide) ?_
    refine lv_icmp_le (tgt := 16) hx hb dXD_foremost_11 (by decide) (fun hc => ?_) (fun hc => ?_)
    · have h := tc_ip hc h
      refine lv_iload_n hx hb dXD_foremost_16 rfl (lv_at hl 2 rfl) ?_
      refine lv_bipush (v := 16) hx hb dXD_foremost_17 (by decide) ?_
      refine lv_icmp_le (tgt := 24) hx hb dXD_foremost_19 (by decide) (fun hc => ?_) (fun hc => ?_)
      · have h := tc_ip hc h
        refine lv_iload_n hx hb dXD_foremost_24 rfl (lv_at hl 0 rfl) ?_
        refine lv_if_eq (tgt := 30) hx hb dXD_foremost_25 (by decide) (fun hc => ?_) (fun hc => ?_)
        · have h := tc_ip hc h
          refine lv_iload_n hx hb dXD_foremost_30 rfl (lv_at hl 1 rfl) ?_
          refine lv_if_eq (tgt := 38) hx hb dXD_foremost_31 (by decide) (fun hc => ?_) (fun hc => ?_)
          · have h := tc_ip hc h
            refine lv_iload_n hx hb dXD_foremost_38 rfl (lv_at hl 2 rfl) ?_
            exact w_XD_foremost_39 C0 hJ h hP hS (lv_sub hl [] rfl)
          · have h := tc_in hc h
            refine lv_iload_n hx hb dXD_foremost_34 rfl (lv_at hl 1 rfl) ?_
            refine lv_goto (tgt := 39) hx hb dXD_foremost_35 (by decide) ?_
            exact w_XD_foremost_39 C0 hJ h hP hS (lv_sub hl [] rfl)
        · have h := tc_in hc h
          refine lv_iload_n hx hb dXD_foremost_28 rfl (lv_at hl 0 rfl) ?_
          exact tc_cri C0 hP hS h dXD_foremost_29
      · have h := tc_in hc h
        refine lv_iload_n hx hb dXD_foremost_22 rfl (lv_at hl 2 rfl) ?_
        exact tc_cri C0 hP hS h dXD_foremost_23
    · have h := tc_in hc h
      refine lv_iload_n hx hb dXD_foremost_14 rfl (lv_at hl 1 rfl) ?_
      exact tc_cri C0 hP hS h dXD_foremost_15
  · have h := tc_in hc h
    refine lv_iload_n hx hb dXD_foremost_6 rfl (lv_at hl 0 rfl) ?_
    exact tc_cri C0 hP hS h dXD_foremost_7
theorem k_XD_foremost (hJ : ∀ σ, va_D A (tc_cW ad cA σ)) {σ : tc_S} {l0 l1 l2 : Int32} {q : Int32 × tc_S} (h : m_XD_foremost σ l0 l1 l2 = some q) : Met l yXD_foremost [.code yXD_foremost cXD_foremost 3 (some .int)] (tc_R 0) (tc_Pc D cA (tc_cW ad cA σ) [.int l0, .int l1, .int l2]) (tc_Qi D (tc_cW ad cA q.2) A q.1) 0 0 A :=
  tc_met (by decide) (Nat.le_of_ble_eq_true rfl) (fun _ _ _ _ _ _ _ C hP _ hl => w_XD_foremost_0 C hJ h hP va_S.rf hl)
def m_XD_patternDot_85 (σ : tc_S) (k0 : Int32) : Option (Int32 × tc_S) := (some (k0, σ))
set_option maxHeartbeats 4000000 in
set_option maxRecDepth 100000 in
theorem w_XD_patternDot_85 (C : tc_C p s m args meth c RXD cXD_patternDot 7 (some .int) D cA) (hJ : ∀ σ, va_D A (tc_cW ad cA σ)) {q : Int32 × tc_S} {σ : tc_S} {k0 : Int32} {H : Heap} {locs : List Loc} {ls : Array Slot} (h : m_XD_patternDot_85 σ k0 = some q) (hP : va_P D vwCl (tc_cW ad cA σ) H) (hS : va_S A s.heap H locs) (hl : lv_has ls 7 []) : W p l e (tc_R 1) s m args below meth c H locs 0 0 (MQ below (tc_Qi D (tc_cW ad cA q.2) A q.1) args s 0 0 A) (F0 m 85 ls [.int k0]) := by
  have C0 := C
  obtain ⟨hx, hb, hml, hown, ⟨hK, hN⟩, hr, hlk⟩ := C
  unfold m_XD_patternDot_85 at h
  exact tc_cri C0 hP hS h dXD_patternDot_85
def m_XD_patternDot_83 (σ : tc_S) (l6 : Int32) : Option (Int32 × tc_S) := (m_XD_patternDot_85 σ l6)
set_option maxHeartbeats 4000000 in
set_option maxRecDepth 100000 in
theorem w_XD_patternDot_83 (C : tc_C p s m args meth c RXD cXD_patternDot 7 (some .int) D cA) (hJ : ∀ σ, va_D A (tc_cW ad cA σ)) {q : Int32 × tc_S} {σ : tc_S} {l6 : Int32} {H : Heap} {locs : List Loc} {ls : Array Slot} (h : m_XD_patternDot_83 σ l6 = some q) (hP : va_P D vwCl (tc_cW ad cA σ) H) (hS : va_S A s.heap H locs) (hl : lv_has ls 7 [(6, .int l6)]) : W p l e (tc_R 1) s m args below meth c H locs 0 0 (MQ below (tc_Qi D (tc_cW ad cA q.2) A q.1) args s 0 0 A) (F0 m 83 ls []) := by
  have C0 := C
  obtain ⟨hx, hb, hml, hown, ⟨hK, hN⟩, hr, hlk⟩ := C
  unfold m_XD_patternDot_83 at h
  refine lv_iload hx hb dXD_patternDot_83 (lv_at hl 0 rfl) ?_
  exact w_XD_patternDot_85 C0 hJ h hP hS (lv_sub hl [] rfl)
def m_XD_patternDot_32 (σ : tc_S) (l1 l4 k0 : Int32) : Option (Int32 × tc_S) := ((m_XP_vramWord σ (((l1 &&& 127) * 4) + k0)).bind (fun q47 => (if ((q47.1 >>> ((12 - (4 * l4)) &&& 31)) &&& 15) = 0 then (m_XD_patternDot_83 q47.2 ((q47.1 >>> ((12 - (4 * l4)) &&& 31)) &&& 15)) else (if (l1 &&& 32768) = 0 then (m_XD_patternDot_83 q47.2 ((q47.1 >>> ((12 - (4 * l4)) &&& 31)) &&& 15)) else (m_XD_patternDot_85 q47.2 (((q47.1 >>> ((12 - (4 * l4)) &&& 31)) &&& 15) + 16))))))
set_option maxHeartbeats 4000000 in
set_option maxRecDepth 100000 in
theorem w_XD_patternDot_32 (C : tc_C p s m args meth c RXD cXD_patternDot 7 (some .int) D cA) (hJ : ∀ σ, va_D A (tc_cW ad cA σ)) {q : Int32 × tc_S} {σ : tc_S} {l1 l4 k0 : Int32} {H : Heap} {locs : List Loc} {ls : Array Slot} (h : m_XD_patternDot_32 σ l1 l4 k0 = some q) (hP : va_P D vwCl (tc_cW ad cA σ) H) (hS : va_S A s.heap H locs) (hl : lv_has ls 7 [(0, .ref (ad 5)), (1, .int l1), (4, .int l4)]) : W p l e (tc_R 1) s m args below meth c H locs 0 0 (MQ below (tc_Qi D (tc_cW ad cA q.2) A q.1) args s 0 0 A) (F0 m 32 ls [.int k0]) := by
  have C0 := C
  obtain ⟨hx, hb, hml, hown, ⟨hK, hN⟩, hr, hlk⟩ := C
  unfold m_XD_patternDot_32 at h
  refine lv_istore (lv' := [(5, .int k0), (0, .ref (ad 5)), (1, .int l1), (4, .int l4)]) hx hb dXD_patternDot_32 hl (by decide) rfl (fun ls hl => ?_)
  refine lv_aload_n hx hb dXD_patternDot_34 rfl (lv_at hl 1 rfl) ?_
  refine tc_cr_XD_picture C0 hP (tc_use hN tw_125) dXD_patternDot_35 ?_
  refine lv_iload_n hx hb dXD_patternDot_38 rfl (lv_at hl 2 rfl) ?_
  refine lv_bipush (v := 127) hx hb dXD_patternDot_39 (by decide) ?_
  refine lv_iand hx hb dXD_patternDot_41 ?_
  refine lv_iconst (v := 4) hx hb dXD_patternDot_42 (by decide) ?_
  refine lv_imul hx hb dXD_patternDot_43 ?_
  refine lv_iload hx hb dXD_patternDot_44 (lv_at hl 0 rfl) ?_
  refine lv_iadd hx hb dXD_patternDot_46 ?_
  obtain ⟨q47, e47, h⟩ := tc_bd_some h
  refine tc_cVi (As := [.int (((l1 &&& 127) * 4) + k0)]) (rest := []) C0 (k_XP_vramWord hJ e47) tv_XD_47 (by decide) (by decide) hP hS hl 3 rfl rfl (Nat.le_of_ble_eq_true rfl) dXD_patternDot_47 rfl (fun H locs hP hS => ?_)
  refine lv_bipush (v := 12) hx hb dXD_patternDot_50 (by decide) ?_
  refine lv_iconst (v := 4) hx hb dXD_patternDot_52 (by decide) ?_
  refine lv_iload hx hb dXD_patternDot_53 (lv_at hl 3 rfl) ?_
  refine lv_imul hx hb dXD_patternDot_55 ?_
  refine lv_isub hx hb dXD_patternDot_56 ?_
  refine lv_ishr hx hb dXD_patternDot_57 ?_
  refine lv_bipush (v := 15) hx hb dXD_patternDot_58 (by decide) ?_
  refine lv_iand hx hb dXD_patternDot_60 ?_
  refine lv_istore (lv' := [(6, .int ((q47.1 >>> ((12 - (4 * l4)) &&& 31)) &&& 15)), (5, .int k0), (0, .ref (ad 5)), (1, .int l1), (4, .int l4)]) hx hb dXD_patternDot_61 hl (by decide) rfl (fun ls hl => ?_)
  refine lv_iload hx hb dXD_patternDot_63 (lv_at hl 0 rfl) ?_
  refine lv_if_eq (tgt := 83) hx hb dXD_patternDot_65 (by decide) (fun hc => ?_) (fun hc => ?_)
  · have h := tc_ip hc h
    exact w_XD_patternDot_83 C0 hJ h hP hS (lv_sub hl [0] rfl)
  · have h := tc_in hc h
    refine lv_iload_n hx hb dXD_patternDot_68 rfl (lv_at hl 3 rfl) ?_
    refine lv_ldc (v := 32768) hx hb hown (tc_use hN tw_545) dXD_patternDot_69 ?_
    refine lv_iand hx hb dXD_patternDot_71 ?_
    refine lv_if_eq (tgt := 83) hx hb dXD_patternDot_72 (by decide) (fun hc => ?_) (fun hc => ?_)
    · have h := tc_ip hc h
      exact w_XD_patternDot_83 C0 hJ h hP hS (lv_sub hl [0] rfl)
    · have h := tc_in hc h
      refine lv_iload hx hb dXD_patternDot_75 (lv_at hl 0 rfl) ?_
      refine lv_bipush (v := 16) hx hb dXD_patternDot_77 (by decide) ?_
      refine lv_iadd hx hb dXD_patternDot_79 ?_
      refine lv_goto (tgt := 85) hx hb dXD_patternDot_80 (by decide) ?_
      exact w_XD_patternDot_85 C0 hJ h hP hS (lv_sub hl [] rfl)
def m_XD_patternDot_15 (σ : tc_S) (l1 l3 k0 : Int32) : Option (Int32 × tc_S) := (if (l1 &&& 4096) = 0 then (m_XD_patternDot_32 σ l1 k0 l3) else (m_XD_patternDot_32 σ l1 k0 (3 - l3)))
set_option maxHeartbeats 4000000 in
set_option maxRecDepth 100000 in
theorem w_XD_patternDot_15 (C : tc_C p s m args meth c RXD cXD_patternDot 7 (some .int) D cA) (hJ : ∀ σ, va_D A (tc_cW ad cA σ)) {q : Int32 × tc_S} {σ : tc_S} {l1 l3 k0 : Int32} {H : Heap} {locs : List Loc} {ls : Array Slot} (h : m_XD_patternDot_15 σ l1 l3 k0 = some q) (hP : va_P D vwCl (tc_cW ad cA σ) H) (hS : va_S A s.heap H locs) (hl : lv_has ls 7 [(0, .ref (ad 5)), (1, .int l1), (3, .int l3)]) : W p l e (tc_R 1) s m args below meth c H locs 0 0 (MQ below (tc_Qi D (tc_cW ad cA q.2) A q.1) args s 0 0 A) (F0 m 15 ls [.int k0]) := by
  have C0 := C
  obtain ⟨hx, hb, hml, hown, ⟨hK, hN⟩, hr, hlk⟩ := C
  unfold m_XD_patternDot_15 at h
  refine lv_istore (lv' := [(4, .int k0), (0, .ref (ad 5)), (1, .int l1), (3, .int l3)]) hx hb dXD_patternDot_15 hl (by decide) rfl (fun ls hl => ?_)
  refine lv_iload_n hx hb dXD_patternDot_17 rfl (lv_at hl 2 rfl) ?_
  refine lv_sipush (v := 4096) hx hb dXD_patternDot_18 (by decide) ?_
  refine lv_iand hx hb dXD_patternDot_21 ?_
  refine lv_if_eq (tgt := 31) hx hb dXD_patternDot_22 (by decide) (fun hc => ?_) (fun hc => ?_)
  · have h := tc_ip hc h
    refine lv_iload_n hx hb dXD_patternDot_31 rfl (lv_at hl 3 rfl) ?_
    exact w_XD_patternDot_32 C0 hJ h hP hS (lv_sub hl [1, 2, 0] rfl)
  · have h := tc_in hc h
    refine lv_iconst (v := 3) hx hb dXD_patternDot_25 (by decide) ?_
    refine lv_iload_n hx hb dXD_patternDot_26 rfl (lv_at hl 3 rfl) ?_
    refine lv_isub hx hb dXD_patternDot_27 ?_
    refine lv_goto (tgt := 32) hx hb dXD_patternDot_28 (by decide) ?_
    exact w_XD_patternDot_32 C0 hJ h hP hS (lv_sub hl [1, 2, 0] rfl)
def m_XD_patternDot (σ : tc_S) (l1 l2 l3 : Int32) : Option (Int32 × tc_S) := (if (l1 &&& 2048) = 0 then (m_XD_patternDot_15 σ l1 l3 l2) else (m_XD_patternDot_15 σ l1 l3 (3 - l2)))
set_option maxHeartbeats 4000000 in
set_option maxRecDepth 100000 in
theorem w_XD_patternDot_0 (C : tc_C p s m args meth c RXD cXD_patternDot 7 (some .int) D cA) (hJ : ∀ σ, va_D A (tc_cW ad cA σ)) {q : Int32 × tc_S} {σ : tc_S} {l1 l2 l3 : Int32} {H : Heap} {locs : List Loc} {ls : Array Slot} (h : m_XD_patternDot σ l1 l2 l3 = some q) (hP : va_P D vwCl (tc_cW ad cA σ) H) (hS : va_S A s.heap H locs) (hl : lv_has ls 7 [(0, .ref (ad 5)), (1, .int l1), (2, .int l2), (3, .int l3)]) : W p l e (tc_R 1) s m args below meth c H locs 0 0 (MQ below (tc_Qi D (tc_cW ad cA q.2) A q.1) args s 0 0 A) (F0 m 0 ls []) := by
  have C0 := C
  obtain ⟨hx, hb, hml, hown, ⟨hK, hN⟩, hr, hlk⟩ := C
  unfold m_XD_patternDot at h
  refine lv_iload_n hx hb dXD_patternDot_0 rfl (lv_at hl 1 rfl) ?_
  refine lv_sipush (v := 2048) hx hb dXD_patternDot_1 (by decide) ?_
  refine lv_iand hx hb dXD_patternDot_4 ?_
  refine lv_if_eq (tgt := 14) hx hb dXD_patternDot_5 (by decide) (fun hc => ?_) (fun hc => ?_)
  · have h := tc_ip hc h
    refine lv_iload_n hx hb dXD_patternDot_14 rfl (lv_at hl 2 rfl) ?_
    exact w_XD_patternDot_15 C0 hJ h hP hS (lv_sub hl [0, 1, 3] rfl)
  · have h := tc_in hc h
    refine lv_iconst (v := 3) hx hb dXD_patternDot_8 (by decide) ?_
    refine lv_iload_n hx hb dXD_patternDot_9 rfl (lv_at hl 2 rfl) ?_
    refine lv_isub hx hb dXD_patternDot_10 ?_
    refine lv_goto (tgt := 15) hx hb dXD_patternDot_11 (by decide) ?_
    exact w_XD_patternDot_15 C0 hJ h hP hS (lv_sub hl [0, 1, 3] rfl)
theorem k_XD_patternDot (hJ : ∀ σ, va_D A (tc_cW ad cA σ)) {σ : tc_S} {l1 l2 l3 : Int32} {q : Int32 × tc_S} (h : m_XD_patternDot σ l1 l2 l3 = some q) : Met l yXD_patternDot [.code yXD_patternDot cXD_patternDot 7 (some .int)] (tc_R 1) (tc_Pc D cA (tc_cW ad cA σ) [.ref (ad 5), .int l1, .int l2, .int l3]) (tc_Qi D (tc_cW ad cA q.2) A q.1) 0 0 A :=
  tc_met (by decide) (Nat.le_of_ble_eq_true rfl) (fun _ _ _ _ _ _ _ C hP _ hl => w_XD_patternDot_0 C hJ h hP va_S.rf hl)
end WALK_C_04
