section WALK_C_07
variable {p : Program} {l : Launch} {e : Env} {s : State} {m : MethodId} {args : Array Value} {below : List Frame} {meth : Method} {c : Code} {D : va_G} {cA : ClassId} {A : Nat → Prop} {ad : Nat → Nat}
def m_XT_memory_10 (σ : tc_S) : Option (Int32 × tc_S) := (some (0, σ))
set_option maxHeartbeats 4000000 in
set_option maxRecDepth 100000 in
theorem w_XT_memory_10 (C : tc_C p s m args meth c RXT cXT_memory 2 (some .int) D cA) (hJ : ∀ σ, va_D A (tc_cW ad cA σ)) {q : Int32 × tc_S} {σ : tc_S} {H : Heap} {locs : List Loc} {ls : Array Slot} (h : m_XT_memory_10 σ = some q) (hP : va_P D vwCl (tc_cW ad cA σ) H) (hS : va_S A s.heap H locs) (hl : lv_has ls 2 []) : W p l e (tc_R 2) s m args below meth c H locs 0 0 (MQ below (tc_Qi D (tc_cW ad cA q.2) A q.1) args s 0 0 A) (F0 m 10 ls []) := by
  have C0 := C
  obtain ⟨hx, hb, hml, hown, ⟨hK, hN⟩, hr, hlk⟩ := C
  unfold m_XT_memory_10 at h
  refine lv_iconst (v := 0) hx hb dXT_memory_10 (by decide) ?_
  exact tc_cri C0 hP hS h dXT_memory_11
def m_XT_memory (σ : tc_S) (l1 : Int32) : Option (Int32 × tc_S) := (if l1 < 0 then (m_XT_memory_10 σ) else (if l1 ≤ 65535 then ((m_XU_readQuietly σ l1).bind (fun q17 => (some (q17.1, q17.2)))) else (m_XT_memory_10 σ)))
set_option maxHeartbeats 4000000 in
set_option maxRecDepth 100000 in
theorem w_XT_memory_0 (C : tc_C p s m args meth c RXT cXT_memory 2 (some .int) D cA) (hJ : ∀ σ, va_D A (tc_cW ad cA σ)) {q : Int32 × tc_S} {σ : tc_S} {l1 : Int32} {H : Heap} {locs : List Loc} {ls : Array Slot} (h : m_XT_memory σ l1 = some q) (hP : va_P D vwCl (tc_cW ad cA σ) H) (hS : va_S A s.heap H locs) (hl : lv_has ls 2 [(0, .ref (ad 0)), (1, .int l1)]) : W p l e (tc_R 2) s m args below meth c H locs 0 0 (MQ below (tc_Qi D (tc_cW ad cA q.2) A q.1) args s 0 0 A) (F0 m 0 ls []) := by
  have C0 := C
  obtain ⟨hx, hb, hml, hown, ⟨hK, hN⟩, hr, hlk⟩ := C
  unfold m_XT_memory at h
  refine lv_iload_n hx hb dXT_memory_0 rfl (lv_at hl 1 rfl) ?_
  refine lv_if_lt (tgt := 10) hx hb dXT_memory_1 (by decide) (fun hc => ?_) (fun hc => ?_)
  · have h := tc_ip hc h
    exact w_XT_memory_10 C0 hJ h hP hS (lv_sub hl [] rfl)
  · have h := tc_in hc h
    refine lv_iload_n hx hb dXT_memory_4 rfl (lv_at hl 1 rfl) ?_
    refine lv_ldc (v := 65535) hx hb hown (tc_use hN tw_292) dXT_memory_5 ?_
    refine lv_icmp_le (tgt := 12) hx hb dXT_memory_7 (by decide) (fun hc => ?_) (fun hc => ?_)
    · have h := tc_ip hc h
      refine lv_aload_n hx hb dXT_memory_12 rfl (lv_at hl 0 rfl) ?_
      refine tc_cr_XT_bus C0 hP (tc_use hN tw_271) dXT_memory_13 ?_
      refine lv_iload_n hx hb dXT_memory_16 rfl (lv_at hl 1 rfl) ?_
      obtain ⟨q17, e17, h⟩ := tc_bd_some h
      refine tc_cVi (As := [.int l1]) (rest := []) C0 (k_XU_readQuietly hJ e17) tv_XT_77 (by decide) (by decide) hP hS hl 6 rfl rfl (Nat.le_of_ble_eq_true rfl) dXT_memory_17 rfl (fun H locs hP hS => ?_)
      exact tc_cri C0 hP hS h dXT_memory_20
    · have h := tc_in hc h
      exact w_XT_memory_10 C0 hJ h hP hS (lv_sub hl [] rfl)
theorem k_XT_memory (hJ : ∀ σ, va_D A (tc_cW ad cA σ)) {σ : tc_S} {l1 : Int32} {q : Int32 × tc_S} (h : m_XT_memory σ l1 = some q) : Met l yXT_memory [.code yXT_memory cXT_memory 2 (some .int)] (tc_R 2) (tc_Pc D cA (tc_cW ad cA σ) [.ref (ad 0), .int l1]) (tc_Qi D (tc_cW ad cA q.2) A q.1) 0 0 A :=
  tc_met (by decide) (Nat.le_of_ble_eq_true rfl) (fun _ _ _ _ _ _ _ C hP _ hl => w_XT_memory_0 C hJ h hP va_S.rf hl)
def m_XS_stateBits_65 (σ : tc_S) (k0 k1 : Int32) : Option (Int32 × tc_S) := (some ((k1 + k0), σ))
set_option maxHeartbeats 4000000 in
set_option maxRecDepth 100000 in
theorem w_XS_stateBits_65 (C : tc_C p s m args meth c RXS cXS_stateBits 1 (some .int) D cA) (hJ : ∀ σ, va_D A (tc_cW ad cA σ)) {q : Int32 × tc_S} {σ : tc_S} {k0 k1 : Int32} {H : Heap} {locs : List Loc} {ls : Array Slot} (h : m_XS_stateBits_65 σ k0 k1 = some q) (hP : va_P D vwCl (tc_cW ad cA σ) H) (hS : va_S A s.heap H locs) (hl : lv_has ls 1 []) : W p l e (tc_R 0) s m args below meth c H locs 0 0 (MQ below (tc_Qi D (tc_cW ad cA q.2) A q.1) args s 0 0 A) (F0 m 65 ls [.int k0, .int k1]) := by
  have C0 := C
  obtain ⟨hx, hb, hml, hown, ⟨hK, hN⟩, hr, hlk⟩ := C
  unfold m_XS_stateBits_65 at h
  refine lv_iadd hx hb dXS_stateBits_65 ?_
  exact tc_cri C0 hP hS h dXS_stateBits_66
def m_XS_stateBits_51 (σ : tc_S) (k0 k1 : Int32) : Option (Int32 × tc_S) := (if (tc_gf σ 16) = 0 then (m_XS_stateBits_65 σ 0 (k1 + k0)) else (m_XS_stateBits_65 σ 16 (k1 + k0)))
set_option maxHeartbeats 4000000 in
set_option maxRecDepth 100000 in
theorem w_XS_stateBits_51 (C : tc_C p s m args meth c RXS cXS_stateBits 1 (some .int) D cA) (hJ : ∀ σ, va_D A (tc_cW ad cA σ)) {q : Int32 × tc_S} {σ : tc_S} {k0 k1 : Int32} {H : Heap} {locs : List Loc} {ls : Array Slot} (h : m_XS_stateBits_51 σ k0 k1 = some q) (hP : va_P D vwCl (tc_cW ad cA σ) H) (hS : va_S A s.heap H locs) (hl : lv_has ls 1 [(0, .ref (ad 2))]) : W p l e (tc_R 0) s m args below meth c H locs 0 0 (MQ below (tc_Qi D (tc_cW ad cA q.2) A q.1) args s 0 0 A) (F0 m 51 ls [.int k0, .int k1]) := by
  have C0 := C
  obtain ⟨hx, hb, hml, hown, ⟨hK, hN⟩, hr, hlk⟩ := C
  unfold m_XS_stateBits_51 at h
  refine lv_iadd hx hb dXS_stateBits_51 ?_
  refine lv_aload_n hx hb dXS_stateBits_52 rfl (lv_at hl 0 rfl) ?_
  refine tc_cg16 C0 hP (tc_use hN tw_40) dXS_stateBits_53 ?_
  refine lv_if_eq (tgt := 64) hx hb dXS_stateBits_56 (by decide) (fun hc => ?_) (fun hc => ?_)
  · have h := tc_ip hc h
    refine lv_iconst (v := 0) hx hb dXS_stateBits_64 (by decide) ?_
    exact w_XS_stateBits_65 C0 hJ h hP hS (lv_sub hl [] rfl)
  · have h := tc_in hc h
    refine lv_bipush (v := 16) hx hb dXS_stateBits_59 (by decide) ?_
    refine lv_goto (tgt := 65) hx hb dXS_stateBits_61 (by decide) ?_
    exact w_XS_stateBits_65 C0 hJ h hP hS (lv_sub hl [] rfl)
def m_XS_stateBits_37 (σ : tc_S) (k0 k1 : Int32) : Option (Int32 × tc_S) := (if (tc_gf σ 15) = 0 then (m_XS_stateBits_51 σ 0 (k1 + k0)) else (m_XS_stateBits_51 σ 8 (k1 + k0)))
set_option maxHeartbeats 4000000 in
set_option maxRecDepth 100000 in
theorem w_XS_stateBits_37 (C : tc_C p s m args meth c RXS cXS_stateBits 1 (some .int) D cA) (hJ : ∀ σ, va_D A (tc_cW ad cA σ)) {q : Int32 × tc_S} {σ : tc_S} {k0 k1 : Int32} {H : Heap} {locs : List Loc} {ls : Array Slot} (h : m_XS_stateBits_37 σ k0 k1 = some q) (hP : va_P D vwCl (tc_cW ad cA σ) H) (hS : va_S A s.heap H locs) (hl : lv_has ls 1 [(0, .ref (ad 2))]) : W p l e (tc_R 0) s m args below meth c H locs 0 0 (MQ below (tc_Qi D (tc_cW ad cA q.2) A q.1) args s 0 0 A) (F0 m 37 ls [.int k0, .int k1]) := by
  have C0 := C
  obtain ⟨hx, hb, hml, hown, ⟨hK, hN⟩, hr, hlk⟩ := C
  unfold m_XS_stateBits_37 at h
  refine lv_iadd hx hb dXS_stateBits_37 ?_
  refine lv_aload_n hx hb dXS_stateBits_38 rfl (lv_at hl 0 rfl) ?_
  refine tc_cg15 C0 hP (tc_use hN tw_38) dXS_stateBits_39 ?_
  refine lv_if_eq (tgt := 50) hx hb dXS_stateBits_42 (by decide) (fun hc => ?_) (fun hc => ?_)
  · have h := tc_ip hc h
    refine lv_iconst (v := 0) hx hb dXS_stateBits_50 (by decide) ?_
    exact w_XS_stateBits_51 C0 hJ h hP hS (lv_sub hl [0] rfl)
  · have h := tc_in hc h
    refine lv_bipush (v := 8) hx hb dXS_stateBits_45 (by decide) ?_
    refine lv_goto (tgt := 51) hx hb dXS_stateBits_47 (by decide) ?_
    exact w_XS_stateBits_51 C0 hJ h hP hS (lv_sub hl [0] rfl)
def m_XS_stateBits_24 (σ : tc_S) (k0 k1 : Int32) : Option (Int32 × tc_S) := (if (tc_gf σ 14) = 0 then (m_XS_stateBits_37 σ 0 (k1 + k0)) else (m_XS_stateBits_37 σ 4 (k1 + k0)))
set_option maxHeartbeats 4000000 in
set_option maxRecDepth 100000 in
theorem w_XS_stateBits_24 (C : tc_C p s m args meth c RXS cXS_stateBits 1 (some .int) D cA) (hJ : ∀ σ, va_D A (tc_cW ad cA σ)) {q : Int32 × tc_S} {σ : tc_S} {k0 k1 : Int32} {H : Heap} {locs : List Loc} {ls : Array Slot} (h : m_XS_stateBits_24 σ k0 k1 = some q) (hP : va_P D vwCl (tc_cW ad cA σ) H) (hS : va_S A s.heap H locs) (hl : lv_has ls 1 [(0, .ref (ad 2))]) : W p l e (tc_R 0) s m args below meth c H locs 0 0 (MQ below (tc_Qi D (tc_cW ad cA q.2) A q.1) args s 0 0 A) (F0 m 24 ls [.int k0, .int k1]) := by
  have C0 := C
  obtain ⟨hx, hb, hml, hown, ⟨hK, hN⟩, hr, hlk⟩ := C
  unfold m_XS_stateBits_24 at h
  refine lv_iadd hx hb dXS_stateBits_24 ?_
  refine lv_aload_n hx hb dXS_stateBits_25 rfl (lv_at hl 0 rfl) ?_
  refine tc_cg14 C0 hP (tc_use hN tw_37) dXS_stateBits_26 ?_
  refine lv_if_eq (tgt := 36) hx hb dXS_stateBits_29 (by decide) (fun hc => ?_) (fun hc => ?_)
  · have h := tc_ip hc h
    refine lv_iconst (v := 0) hx hb dXS_stateBits_36 (by decide) ?_
    exact w_XS_stateBits_37 C0 hJ h hP hS (lv_sub hl [0] rfl)
  · have h := tc_in hc h
    refine lv_iconst (v := 4) hx hb dXS_stateBits_32 (by decide) ?_
    refine lv_goto (tgt := 37) hx hb dXS_stateBits_33 (by decide) ?_
    exact w_XS_stateBits_37 C0 hJ h hP hS (lv_sub hl [0] rfl)
def m_XS_stateBits_12 (σ : tc_S) (k0 : Int32) : Option (Int32 × tc_S) := (if (tc_gf σ 13) = 0 then (m_XS_stateBits_24 σ 0 k0) else (m_XS_stateBits_24 σ 2 k0))
set_option maxHeartbeats 4000000 in
set_option maxRecDepth 100000 in
theorem w_XS_stateBits_12 (C : tc_C p s m args meth c RXS cXS_stateBits 1 (some .int) D cA) (hJ : ∀ σ, va_D A (tc_cW ad cA σ)) {q : Int32 × tc_S} {σ : tc_S} {k0 : Int32} {H : Heap} {locs : List Loc} {ls : Array Slot} (h : m_XS_stateBits_12 σ k0 = some q) (hP : va_P D vwCl (tc_cW ad cA σ) H) (hS : va_S A s.heap H locs) (hl : lv_has ls 1 [(0, .ref (ad 2))]) : W p l e (tc_R 0) s m args below meth c H locs 0 0 (MQ below (tc_Qi D (tc_cW ad cA q.2) A q.1) args s 0 0 A) (F0 m 12 ls [.int k0]) := by
  have C0 := C
  obtain ⟨hx, hb, hml, hown, ⟨hK, hN⟩, hr, hlk⟩ := C
  unfold m_XS_stateBits_12 at h
  refine lv_aload_n hx hb dXS_stateBits_12 rfl (lv_at hl 0 rfl) ?_
  refine tc_cg13 C0 hP (tc_use hN tw_36) dXS_stateBits_13 ?_
  refine lv_if_eq (tgt := 23) hx hb dXS_stateBits_16 (by decide) (fun hc => ?_) (fun hc => ?_)
  · have h := tc_ip hc h
    refine lv_iconst (v := 0) hx hb dXS_stateBits_23 (by decide) ?_
    exact w_XS_stateBits_24 C0 hJ h hP hS (lv_sub hl [0] rfl)
  · have h := tc_in hc h
    refine lv_iconst (v := 2) hx hb dXS_stateBits_19 (by decide) ?_
    refine lv_goto (tgt := 24) hx hb dXS_stateBits_20 (by decide) ?_
    exact w_XS_stateBits_24 C0 hJ h hP hS (lv_sub hl [0] rfl)
def m_XS_stateBits (σ : tc_S) : Option (Int32 × tc_S) := (if (tc_gf σ 12) = 0 then (m_XS_stateBits_12 σ 0) else (m_XS_stateBits_12 σ 1))
set_option maxHeartbeats 4000000 in
set_option maxRecDepth 100000 in
theorem w_XS_stateBits_0 (C : tc_C p s m args meth c RXS cXS_stateBits 1 (some .int) D cA) (hJ : ∀ σ, va_D A (tc_cW ad cA σ)) {q : Int32 × tc_S} {σ : tc_S} {H : Heap} {locs : List Loc} {ls : Array Slot} (h : m_XS_stateBits σ = some q) (hP : va_P D vwCl (tc_cW ad cA σ) H) (hS : va_S A s.heap H locs) (hl : lv_has ls 1 [(0, .ref (ad 2))]) : W p l e (tc_R 0) s m args below meth c H locs 0 0 (MQ below (tc_Qi D (tc_cW ad cA q.2) A q.1) args s 0 0 A) (F0 m 0 ls []) := by
  have C0 := C
  obtain ⟨hx, hb, hml, hown, ⟨hK, hN⟩, hr, hlk⟩ := C
  unfold m_XS_stateBits at h
  refine lv_aload_n hx hb dXS_stateBits_0 rfl (lv_at hl 0 rfl) ?_
  refine tc_cg12 C0 hP (tc_use hN tw_35) dXS_stateBits_1 ?_
  refine lv_if_eq (tgt := 11) hx hb dXS_stateBits_4 (by decide) (fun hc => ?_) (fun hc => ?_)
  · have h := tc_ip hc h
    refine lv_iconst (v := 0) hx hb dXS_stateBits_11 (by decide) ?_
    exact w_XS_stateBits_12 C0 hJ h hP hS (lv_sub hl [0] rfl)
  · have h := tc_in hc h
    refine lv_iconst (v := 1) hx hb dXS_stateBits_7 (by decide) ?_
    refine lv_goto (tgt := 12) hx hb dXS_stateBits_8 (by decide) ?_
    exact w_XS_stateBits_12 C0 hJ h hP hS (lv_sub hl [0] rfl)
theorem k_XS_stateBits (hJ : ∀ σ, va_D A (tc_cW ad cA σ)) {σ : tc_S} {q : Int32 × tc_S} (h : m_XS_stateBits σ = some q) : Met l yXS_stateBits [.code yXS_stateBits cXS_stateBits 1 (some .int)] (tc_R 0) (tc_Pc D cA (tc_cW ad cA σ) [.ref (ad 2)]) (tc_Qi D (tc_cW ad cA q.2) A q.1) 0 0 A :=
  tc_met (by decide) (Nat.le_of_ble_eq_true rfl) (fun _ _ _ _ _ _ _ C hP _ hl => w_XS_stateBits_0 C hJ h hP va_S.rf hl)
def m_XT_register_126 (σ : tc_S) (k0 k1 : Int32) : Option (Int32 × tc_S) := (some ((k1 + k0), σ))
set_option maxHeartbeats 4000000 in
set_option maxRecDepth 100000 in
theorem w_XT_register_126 (C : tc_C p s m args meth c RXT cXT_register 2 (some .int) D cA) (hJ : ∀ σ, va_D A (tc_cW ad cA σ)) {q : Int32 × tc_S} {σ : tc_S} {k0 k1 : Int32} {H : Heap} {locs : List Loc} {ls : Array Slot} (h : m_XT_register_126 σ k0 k1 = some q) (hP : va_P D vwCl (tc_cW ad cA σ) H) (hS : va_S A s.heap H locs) (hl : lv_has ls 2 []) : W p l e (tc_R 1) s m args below meth c H locs 0 0 (MQ below (tc_Qi D (tc_cW ad cA q.2) A q.1) args s 0 0 A) (F0 m 126 ls [.int k0, .int k1]) := by
  have C0 := C
  obtain ⟨hx, hb, hml, hown, ⟨hK, hN⟩, hr, hlk⟩ := C
  unfold m_XT_register_126 at h
  refine lv_iadd hx hb dXT_register_126 ?_
  exact tc_cri C0 hP hS h dXT_register_127
def m_XT_register_111 (σ : tc_S) (k0 : Int32) : Option (Int32 × tc_S) := ((m_XP_movesFromMemory σ).bind (fun q115 => (if q115.1 = 0 then (m_XT_register_126 q115.2 0 k0) else (m_XT_register_126 q115.2 2 k0))))
set_option maxHeartbeats 4000000 in
set_option maxRecDepth 100000 in
theorem w_XT_register_111 (C : tc_C p s m args meth c RXT cXT_register 2 (some .int) D cA) (hJ : ∀ σ, va_D A (tc_cW ad cA σ)) {q : Int32 × tc_S} {σ : tc_S} {k0 : Int32} {H : Heap} {locs : List Loc} {ls : Array Slot} (h : m_XT_register_111 σ k0 = some q) (hP : va_P D vwCl (tc_cW ad cA σ) H) (hS : va_S A s.heap H locs) (hl : lv_has ls 2 [(0, .ref (ad 0))]) : W p l e (tc_R 1) s m args below meth c H locs 0 0 (MQ below (tc_Qi D (tc_cW ad cA q.2) A q.1) args s 0 0 A) (F0 m 111 ls [.int k0]) := by
  have C0 := C
  obtain ⟨hx, hb, hml, hown, ⟨hK, hN⟩, hr, hlk⟩ := C
  unfold m_XT_register_111 at h
  refine lv_aload_n hx hb dXT_register_111 rfl (lv_at hl 0 rfl) ?_
  refine tc_cr_XT_picture C0 hP (tc_use hN tw_268) dXT_register_112 ?_
  obtain ⟨q115, e115, h⟩ := tc_bd_some h
  refine tc_cVi (As := []) (rest := [.int k0]) C0 (k_XP_movesFromMemory hJ e115) tv_XT_97 (by decide) (by decide) hP hS hl 3 rfl rfl (Nat.le_of_ble_eq_true rfl) dXT_register_115 rfl (fun H locs hP hS => ?_)
  refine lv_if_eq (tgt := 125) hx hb dXT_register_118 (by decide) (fun hc => ?_) (fun hc => ?_)
  · have h := tc_ip hc h
    refine lv_iconst (v := 0) hx hb dXT_register_125 (by decide) ?_
    exact w_XT_register_126 C0 hJ h hP hS (lv_sub hl [] rfl)
  · have h := tc_in hc h
    refine lv_iconst (v := 2) hx hb dXT_register_121 (by decide) ?_
    refine lv_goto (tgt := 126) hx hb dXT_register_122 (by decide) ?_
    exact w_XT_register_126 C0 hJ h hP hS (lv_sub hl [] rfl)
def m_XT_register_20 (σ : tc_S) (l1 : Int32) : Option (Int32 × tc_S) := (if l1 = 8 then (some ((tc_gf σ 0), σ)) else (if l1 = 9 then (some ((tc_gf σ 1), σ)) else (if l1 = 10 then ((m_XM_maskAndFlags σ).bind (fun q92 => (some (q92.1, q92.2)))) else (if l1 = 11 then (if (tc_gf σ 7) = 0 then (m_XT_register_111 σ 0) else (m_XT_register_111 σ 1)) else (if l1 = 12 then (some ((tc_gf σ 8), σ)) else (if l1 = 13 then (some ((tc_gf σ 9), σ)) else (if l1 = 14 then (some ((tc_gf σ 10), σ)) else (if l1 = 15 then (some ((tc_gf σ 11), σ)) else (if l1 = 16 then ((m_XS_stateBits σ).bind (fun q164 => (some (q164.1, q164.2)))) else (some ((-1), σ)))))))))))
set_option maxHeartbeats 4000000 in
set_option maxRecDepth 100000 in
theorem w_XT_register_20 (C : tc_C p s m args meth c RXT cXT_register 2 (some .int) D cA) (hJ : ∀ σ, va_D A (tc_cW ad cA σ)) {q : Int32 × tc_S} {σ : tc_S} {l1 : Int32} {H : Heap} {locs : List Loc} {ls : Array Slot} (h : m_XT_register_20 σ l1 = some q) (hP : va_P D vwCl (tc_cW ad cA σ) H) (hS : va_S A s.heap H locs) (hl : lv_has ls 2 [(0, .ref (ad 0)), (1, .int l1)]) : W p l e (tc_R 1) s m args below meth c H locs 0 0 (MQ below (tc_Qi D (tc_cW ad cA q.2) A q.1) args s 0 0 A) (F0 m 20 ls []) := by
  have C0 := C
  obtain ⟨hx, hb, hml, hown, ⟨hK, hN⟩, hr, hlk⟩ := C
  unfold m_XT_register_20 at h
  refine lv_iload_n hx hb dXT_register_20 rfl (lv_at hl 1 rfl) ?_
  by_cases hc0 : l1 = 8
  · have h := tc_ip hc0 h
    refine lv_tableIn (off := 51) (tgt := 72) hx hb dXT_register_21 (by rw [hc0]; decide) (by rw [hc0]; decide) (by rw [hc0]; decide) (by decide) ?_
    refine lv_aload_n hx hb dXT_register_72 rfl (lv_at hl 0 rfl) ?_
    refine tc_cr_XT_main C0 hP (tc_use hN tw_272) dXT_register_73 ?_
    refine tc_cgN0 C0 hP (tc_use hN tw_234) dXT_register_76 ?_
    exact tc_cri C0 hP hS h dXT_register_79
  have h := tc_in hc0 h
  by_cases hc1 : l1 = 9
  · have h := tc_ip hc1 h
    refine lv_tableIn (off := 59) (tgt := 80) hx hb dXT_register_21 (by rw [hc1]; decide) (by rw [hc1]; decide) (by rw [hc1]; decide) (by decide) ?_
    refine lv_aload_n hx hb dXT_register_80 rfl (lv_at hl 0 rfl) ?_
    refine tc_cr_XT_main C0 hP (tc_use hN tw_272) dXT_register_81 ?_
    refine tc_cgN1 C0 hP (tc_use hN tw_236) dXT_register_84 ?_
    exact tc_cri C0 hP hS h dXT_register_87
  have h := tc_in hc1 h
  by_cases hc2 : l1 = 10
  · have h := tc_ip hc2 h
    refine lv_tableIn (off := 67) (tgt := 88) hx hb dXT_register_21 (by rw [hc2]; decide) (by rw [hc2]; decide) (by rw [hc2]; decide) (by decide) ?_
    refine lv_aload_n hx hb dXT_register_88 rfl (lv_at hl 0 rfl) ?_
    refine tc_cr_XT_main C0 hP (tc_use hN tw_272) dXT_register_89 ?_
    obtain ⟨q92, e92, h⟩ := tc_bd_some h
    refine tc_cVi (As := []) (rest := []) C0 (k_XM_maskAndFlags hJ e92) tv_XT_90 (by decide) (by decide) hP hS hl 1 rfl rfl (Nat.le_of_ble_eq_true rfl) dXT_register_92 rfl (fun H locs hP hS => ?_)
    exact tc_cri C0 hP hS h dXT_register_95
  have h := tc_in hc2 h
  by_cases hc3 : l1 = 11
  · have h := tc_ip hc3 h
    refine lv_tableIn (off := 75) (tgt := 96) hx hb dXT_register_21 (by rw [hc3]; decide) (by rw [hc3]; decide) (by rw [hc3]; decide) (by decide) ?_
    refine lv_aload_n hx hb dXT_register_96 rfl (lv_at hl 0 rfl) ?_
    refine tc_cr_XT_main C0 hP (tc_use hN tw_272) dXT_register_97 ?_
    refine tc_cgN7 C0 hP (tc_use hN tw_244) dXT_register_100 ?_
    refine lv_if_eq (tgt := 110) hx hb dXT_register_103 (by decide) (fun hc => ?_) (fun hc => ?_)
    · have h := tc_ip hc h
      refine lv_iconst (v := 0) hx hb dXT_register_110 (by decide) ?_
      exact w_XT_register_111 C0 hJ h hP hS (lv_sub hl [0] rfl)
    · have h := tc_in hc h
      refine lv_iconst (v := 1) hx hb dXT_register_106 (by decide) ?_
      refine lv_goto (tgt := 111) hx hb dXT_register_107 (by decide) ?_
      exact w_XT_register_111 C0 hJ h hP hS (lv_sub hl [0] rfl)
  have h := tc_in hc3 h
  by_cases hc4 : l1 = 12
  · have h := tc_ip hc4 h
    refine lv_tableIn (off := 107) (tgt := 128) hx hb dXT_register_21 (by rw [hc4]; decide) (by rw [hc4]; decide) (by rw [hc4]; decide) (by decide) ?_
    refine lv_aload_n hx hb dXT_register_128 rfl (lv_at hl 0 rfl) ?_
    refine tc_cr_XT_second C0 hP (tc_use hN tw_267) dXT_register_129 ?_
    refine tc_cgN8 C0 hP (tc_use hN tw_28) dXT_register_132 ?_
    exact tc_cri C0 hP hS h dXT_register_135
  have h := tc_in hc4 h
  by_cases hc5 : l1 = 13
  · have h := tc_ip hc5 h
    refine lv_tableIn (off := 115) (tgt := 136) hx hb dXT_register_21 (by rw [hc5]; decide) (by rw [hc5]; decide) (by rw [hc5]; decide) (by decide) ?_
    refine lv_aload_n hx hb dXT_register_136 rfl (lv_at hl 0 rfl) ?_
    refine tc_cr_XT_second C0 hP (tc_use hN tw_267) dXT_register_137 ?_
    refine tc_cgN9 C0 hP (tc_use hN tw_30) dXT_register_140 ?_
    exact tc_cri C0 hP hS h dXT_register_143
  have h := tc_in hc5 h
  by_cases hc6 : l1 = 14
  · have h := tc_ip hc6 h
    refine lv_tableIn (off := 123) (tgt := 144) hx hb dXT_register_21 (by rw [hc6]; decide) (by rw [hc6]; decide) (by rw [hc6]; decide) (by decide) ?_
    refine lv_aload_n hx hb dXT_register_144 rfl (lv_at hl 0 rfl) ?_
    refine tc_cr_XT_second C0 hP (tc_use hN tw_267) dXT_register_145 ?_
    refine tc_cgN10 C0 hP (tc_use hN tw_32) dXT_register_148 ?_
    exact tc_cri C0 hP hS h dXT_register_151
  have h := tc_in hc6 h
  by_cases hc7 : l1 = 15
  · have h := tc_ip hc7 h
    refine lv_tableIn (off := 131) (tgt := 152) hx hb dXT_register_21 (by rw [hc7]; decide) (by rw [hc7]; decide) (by rw [hc7]; decide) (by decide) ?_
    refine lv_aload_n hx hb dXT_register_152 rfl (lv_at hl 0 rfl) ?_
    refine tc_cr_XT_second C0 hP (tc_use hN tw_267) dXT_register_153 ?_
    refine tc_cgN11 C0 hP (tc_use hN tw_34) dXT_register_156 ?_
    exact tc_cri C0 hP hS h dXT_register_159
  have h := tc_in hc7 h
  by_cases hc8 : l1 = 16
  · have h := tc_ip hc8 h
    refine lv_tableIn (off := 139) (tgt := 160) hx hb dXT_register_21 (by rw [hc8]; decide) (by rw [hc8]; decide) (by rw [hc8]; decide) (by decide) ?_
    refine lv_aload_n hx hb dXT_register_160 rfl (lv_at hl 0 rfl) ?_
    refine tc_cr_XT_second C0 hP (tc_use hN tw_267) dXT_register_161 ?_
    obtain ⟨q164, e164, h⟩ := tc_bd_some h
    refine tc_cVi (As := []) (rest := []) C0 (k_XS_stateBits hJ e164) tv_XT_111 (by decide) (by decide) hP hS hl 2 rfl rfl (Nat.le_of_ble_eq_true rfl) dXT_register_164 rfl (fun H locs hP hS => ?_)
    exact tc_cri C0 hP hS h dXT_register_167
  have h := tc_in hc8 h
  have hn0 := lv_neT (a := 8) hc0 (by decide)
  have hn1 := lv_neT (a := 9) hc1 (by decide)
  have hn2 := lv_neT (a := 10) hc2 (by decide)
  have hn3 := lv_neT (a := 11) hc3 (by decide)
  have hn4 := lv_neT (a := 12) hc4 (by decide)
  have hn5 := lv_neT (a := 13) hc5 (by decide)
  have hn6 := lv_neT (a := 14) hc6 (by decide)
  have hn7 := lv_neT (a := 15) hc7 (by decide)
  have hn8 := lv_neT (a := 16) hc8 (by decide)
  refine lv_tableOut (tgt := 168) hx hb dXT_register_21 (by omega) (by decide) ?_
  refine lv_iconst (v := (-1)) hx hb dXT_register_168 (by decide) ?_
  exact tc_cri C0 hP hS h dXT_register_169
def m_XT_register (σ : tc_S) (l1 : Int32) : Option (Int32 × tc_S) := (if l1 < 0 then (m_XT_register_20 σ l1) else (if 8 ≤ l1 then (m_XT_register_20 σ l1) else (tc_gd l1 8 (some ((tc_ga σ 0 l1), σ)))))
set_option maxHeartbeats 4000000 in
set_option maxRecDepth 100000 in
theorem w_XT_register_0 (C : tc_C p s m args meth c RXT cXT_register 2 (some .int) D cA) (hJ : ∀ σ, va_D A (tc_cW ad cA σ)) {q : Int32 × tc_S} {σ : tc_S} {l1 : Int32} {H : Heap} {locs : List Loc} {ls : Array Slot} (h : m_XT_register σ l1 = some q) (hP : va_P D vwCl (tc_cW ad cA σ) H) (hS : va_S A s.heap H locs) (hl : lv_has ls 2 [(0, .ref (ad 0)), (1, .int l1)]) : W p l e (tc_R 1) s m args below meth c H locs 0 0 (MQ below (tc_Qi D (tc_cW ad cA q.2) A q.1) args s 0 0 A) (F0 m 0 ls []) := by
  have C0 := C
  obtain ⟨hx, hb, hml, hown, ⟨hK, hN⟩, hr, hlk⟩ := C
  unfold m_XT_register at h
  refine lv_iload_n hx hb dXT_register_0 rfl (lv_at hl 1 rfl) ?_
  refine lv_if_lt (tgt := 20) hx hb dXT_register_1 (by decide) (fun hc => ?_) (fun hc => ?_)
  · have h := tc_ip hc h
    exact w_XT_register_20 C0 hJ h hP hS (lv_sub hl [0, 1] rfl)
  · have h := tc_in hc h
    refine lv_iload_n hx hb dXT_register_4 rfl (lv_at hl 1 rfl) ?_
    refine lv_bipush (v := 8) hx hb dXT_register_5 (by decide) ?_
    refine lv_icmp_ge (tgt := 20) hx hb dXT_register_7 (by decide) (fun hc => ?_) (fun hc => ?_)
    · have h := tc_ip hc h
      exact w_XT_register_20 C0 hJ h hP hS (lv_sub hl [0, 1] rfl)
    · have h := tc_in hc h
      refine lv_aload_n hx hb dXT_register_10 rfl (lv_at hl 0 rfl) ?_
      refine tc_cr_XT_main C0 hP (tc_use hN tw_272) dXT_register_11 ?_
      refine tc_crN_XM_d C0 hP (tc_use hN tw_232) dXT_register_14 ?_
      refine lv_iload_n hx hb dXT_register_17 rfl (lv_at hl 1 rfl) ?_
      obtain ⟨hi, h⟩ := tc_gd_some h
      refine tc_cld9 C0 hP hi dXT_register_18 ?_
      exact tc_cri C0 hP hS h dXT_register_19
theorem k_XT_register (hJ : ∀ σ, va_D A (tc_cW ad cA σ)) {σ : tc_S} {l1 : Int32} {q : Int32 × tc_S} (h : m_XT_register σ l1 = some q) : Met l yXT_register [.code yXT_register cXT_register 2 (some .int)] (tc_R 1) (tc_Pc D cA (tc_cW ad cA σ) [.ref (ad 0), .int l1]) (tc_Qi D (tc_cW ad cA q.2) A q.1) 0 0 A :=
  tc_met (by decide) (Nat.le_of_ble_eq_true rfl) (fun _ _ _ _ _ _ _ C hP _ hl => w_XT_register_0 C hJ h hP va_S.rf hl)
def m_XT_seed_16 (σ : tc_S) : Option (Int32 × tc_S) := (some (0, σ))
set_option maxHeartbeats 4000000 in
set_option maxRecDepth 100000 in
theorem w_XT_seed_16 (C : tc_C p s m args meth c RXT cXT_seed 3 (some .boolean) D cA) (hJ : ∀ σ, va_D A (tc_cW ad cA σ)) {q : Int32 × tc_S} {σ : tc_S} {H : Heap} {locs : List Loc} {ls : Array Slot} (h : m_XT_seed_16 σ = some q) (hP : va_P D vwCl (tc_cW ad cA σ) H) (hS : va_S A s.heap H locs) (hl : lv_has ls 3 []) : W p l e (tc_R 0) s m args below meth c H locs 0 0 (MQ below (tc_Qi D (tc_cW ad cA q.2) A q.1) args s 0 0 A) (F0 m 16 ls []) := by
  have C0 := C
  obtain ⟨hx, hb, hml, hown, ⟨hK, hN⟩, hr, hlk⟩ := C
  unfold m_XT_seed_16 at h
  refine lv_iconst (v := 0) hx hb dXT_seed_16 (by decide) ?_
  exact tc_crz C0 hP hS ⟨by decide, by decide⟩ h dXT_seed_17
def m_XT_seed (σ : tc_S) (l1 l2 : Int32) : Option (Int32 × tc_S) := (if l1 < 0 then (m_XT_seed_16 σ) else (if l1 < 128 then (tc_gd l1 128 (some (1, (tc_sa σ 1 l1 (l2 &&& 255))))) else (m_XT_seed_16 σ)))
set_option maxHeartbeats 4000000 in
set_option maxRecDepth 100000 in
theorem w_XT_seed_0 (C : tc_C p s m args meth c RXT cXT_seed 3 (some .boolean) D cA) (hJ : ∀ σ, va_D A (tc_cW ad cA σ)) {q : Int32 × tc_S} {σ : tc_S} {l1 l2 : Int32} {H : Heap} {locs : List Loc} {ls : Array Slot} (h : m_XT_seed σ l1 l2 = some q) (hP : va_P D vwCl (tc_cW ad cA σ) H) (hS : va_S A s.heap H locs) (hl : lv_has ls 3 [(0, .ref (ad 0)), (1, .int l1), (2, .int l2)]) : W p l e (tc_R 0) s m args below meth c H locs 0 0 (MQ below (tc_Qi D (tc_cW ad cA q.2) A q.1) args s 0 0 A) (F0 m 0 ls []) := by
  have C0 := C
  obtain ⟨hx, hb, hml, hown, ⟨hK, hN⟩, hr, hlk⟩ := C
  unfold m_XT_seed at h
  refine lv_iload_n hx hb dXT_seed_0 rfl (lv_at hl 1 rfl) ?_
  refine lv_if_lt (tgt := 16) hx hb dXT_seed_1 (by decide) (fun hc => ?_) (fun hc => ?_)
  · have h := tc_ip hc h
    exact w_XT_seed_16 C0 hJ h hP hS (lv_sub hl [] rfl)
  · have h := tc_in hc h
    refine lv_iload_n hx hb dXT_seed_4 rfl (lv_at hl 1 rfl) ?_
    refine lv_aload_n hx hb dXT_seed_5 rfl (lv_at hl 0 rfl) ?_
    refine tc_cr_XT_second C0 hP (tc_use hN tw_267) dXT_seed_6 ?_
    refine tc_crN_XS_ram C0 hP (tc_use hN tw_26) dXT_seed_9 ?_
    refine tc_cal10 C0 hP dXT_seed_12 ?_
    refine lv_icmp_lt (tgt := 18) hx hb dXT_seed_13 (by decide) (fun hc => ?_) (fun hc => ?_)
    · have h := tc_ip hc h
      refine lv_aload_n hx hb dXT_seed_18 rfl (lv_at hl 0 rfl) ?_
      refine tc_cr_XT_second C0 hP (tc_use hN tw_267) dXT_seed_19 ?_
      refine tc_crN_XS_ram C0 hP (tc_use hN tw_26) dXT_seed_22 ?_
      refine lv_iload_n hx hb dXT_seed_25 rfl (lv_at hl 1 rfl) ?_
      refine lv_iload_n hx hb dXT_seed_26 rfl (lv_at hl 2 rfl) ?_
      refine lv_sipush (v := 255) hx hb dXT_seed_27 (by decide) ?_
      refine lv_iand hx hb dXT_seed_30 ?_
      obtain ⟨hi, h⟩ := tc_gd_some h
      refine tc_cst10 C0 hJ hP hS hi dXT_seed_31 (fun H locs hP hS => ?_)
      refine lv_iconst (v := 1) hx hb dXT_seed_32 (by decide) ?_
      exact tc_crz C0 hP hS ⟨by decide, by decide⟩ h dXT_seed_33
    · have h := tc_in hc h
      exact w_XT_seed_16 C0 hJ h hP hS (lv_sub hl [] rfl)
theorem k_XT_seed (hJ : ∀ σ, va_D A (tc_cW ad cA σ)) {σ : tc_S} {l1 l2 : Int32} {q : Int32 × tc_S} (h : m_XT_seed σ l1 l2 = some q) : Met l yXT_seed [.code yXT_seed cXT_seed 3 (some .boolean)] (tc_R 0) (tc_Pc D cA (tc_cW ad cA σ) [.ref (ad 0), .int l1, .int l2]) (tc_Qi D (tc_cW ad cA q.2) A q.1) 0 0 A :=
  tc_met (by decide) (Nat.le_of_ble_eq_true rfl) (fun _ _ _ _ _ _ _ C hP _ hl => w_XT_seed_0 C hJ h hP va_S.rf hl)
def m_XT_elementOrNone_a12_17 (σ : tc_S) (k0 : Int32) : Option (Int32 × tc_S) := (some (k0, σ))
set_option maxHeartbeats 4000000 in
set_option maxRecDepth 100000 in
theorem w_XT_elementOrNone_a12_17 (C : tc_C p s m args meth c RXT cXT_elementOrNone 2 (some .int) D cA) (hJ : ∀ σ, va_D A (tc_cW ad cA σ)) {q : Int32 × tc_S} {σ : tc_S} {k0 : Int32} {H : Heap} {locs : List Loc} {ls : Array Slot} (h : m_XT_elementOrNone_a12_17 σ k0 = some q) (hP : va_P D vwCl (tc_cW ad cA σ) H) (hS : va_S A s.heap H locs) (hl : lv_has ls 2 []) : W p l e (tc_R 0) s m args below meth c H locs 0 0 (MQ below (tc_Qi D (tc_cW ad cA q.2) A q.1) args s 0 0 A) (F0 m 17 ls [.int k0]) := by
  have C0 := C
  obtain ⟨hx, hb, hml, hown, ⟨hK, hN⟩, hr, hlk⟩ := C
  unfold m_XT_elementOrNone_a12_17 at h
  exact tc_cri C0 hP hS h dXT_elementOrNone_17
def m_XT_elementOrNone_a12_16 (σ : tc_S) : Option (Int32 × tc_S) := (m_XT_elementOrNone_a12_17 σ (-1))
set_option maxHeartbeats 4000000 in
set_option maxRecDepth 100000 in
theorem w_XT_elementOrNone_a12_16 (C : tc_C p s m args meth c RXT cXT_elementOrNone 2 (some .int) D cA) (hJ : ∀ σ, va_D A (tc_cW ad cA σ)) {q : Int32 × tc_S} {σ : tc_S} {H : Heap} {locs : List Loc} {ls : Array Slot} (h : m_XT_elementOrNone_a12_16 σ = some q) (hP : va_P D vwCl (tc_cW ad cA σ) H) (hS : va_S A s.heap H locs) (hl : lv_has ls 2 []) : W p l e (tc_R 0) s m args below meth c H locs 0 0 (MQ below (tc_Qi D (tc_cW ad cA q.2) A q.1) args s 0 0 A) (F0 m 16 ls []) := by
  have C0 := C
  obtain ⟨hx, hb, hml, hown, ⟨hK, hN⟩, hr, hlk⟩ := C
  unfold m_XT_elementOrNone_a12_16 at h
  refine lv_iconst (v := (-1)) hx hb dXT_elementOrNone_16 (by decide) ?_
  exact w_XT_elementOrNone_a12_17 C0 hJ h hP hS (lv_sub hl [] rfl)
def m_XT_elementOrNone_a12 (σ : tc_S) (l1 : Int32) : Option (Int32 × tc_S) := (if l1 < 0 then (m_XT_elementOrNone_a12_16 σ) else (if 16 ≤ l1 then (m_XT_elementOrNone_a12_16 σ) else (tc_gd l1 16 (m_XT_elementOrNone_a12_17 σ (tc_ga σ 3 l1)))))
set_option maxHeartbeats 4000000 in
set_option maxRecDepth 100000 in
theorem w_XT_elementOrNone_a12_0 (C : tc_C p s m args meth c RXT cXT_elementOrNone 2 (some .int) D cA) (hJ : ∀ σ, va_D A (tc_cW ad cA σ)) {q : Int32 × tc_S} {σ : tc_S} {l1 : Int32} {H : Heap} {locs : List Loc} {ls : Array Slot} (h : m_XT_elementOrNone_a12 σ l1 = some q) (hP : va_P D vwCl (tc_cW ad cA σ) H) (hS : va_S A s.heap H locs) (hl : lv_has ls 2 [(0, .ref (ad 12)), (1, .int l1)]) : W p l e (tc_R 0) s m args below meth c H locs 0 0 (MQ below (tc_Qi D (tc_cW ad cA q.2) A q.1) args s 0 0 A) (F0 m 0 ls []) := by
  have C0 := C
  obtain ⟨hx, hb, hml, hown, ⟨hK, hN⟩, hr, hlk⟩ := C
  unfold m_XT_elementOrNone_a12 at h
  refine lv_iload_n hx hb dXT_elementOrNone_0 rfl (lv_at hl 1 rfl) ?_
  refine lv_if_lt (tgt := 16) hx hb dXT_elementOrNone_1 (by decide) (fun hc => ?_) (fun hc => ?_)
  · have h := tc_ip hc h
    exact w_XT_elementOrNone_a12_16 C0 hJ h hP hS (lv_sub hl [] rfl)
  · have h := tc_in hc h
    refine lv_iload_n hx hb dXT_elementOrNone_4 rfl (lv_at hl 1 rfl) ?_
    refine lv_aload_n hx hb dXT_elementOrNone_5 rfl (lv_at hl 0 rfl) ?_
    refine tc_cal12 C0 hP dXT_elementOrNone_6 ?_
    refine lv_icmp_ge (tgt := 16) hx hb dXT_elementOrNone_7 (by decide) (fun hc => ?_) (fun hc => ?_)
    · have h := tc_ip hc h
      exact w_XT_elementOrNone_a12_16 C0 hJ h hP hS (lv_sub hl [] rfl)
    · have h := tc_in hc h
      refine lv_aload_n hx hb dXT_elementOrNone_10 rfl (lv_at hl 0 rfl) ?_
      refine lv_iload_n hx hb dXT_elementOrNone_11 rfl (lv_at hl 1 rfl) ?_
      obtain ⟨hi, h⟩ := tc_gd_some h
      refine tc_cld12 C0 hP hi dXT_elementOrNone_12 ?_
      refine lv_goto (tgt := 17) hx hb dXT_elementOrNone_13 (by decide) ?_
      exact w_XT_elementOrNone_a12_17 C0 hJ h hP hS (lv_sub hl [] rfl)
theorem k_XT_elementOrNone_a12 (hJ : ∀ σ, va_D A (tc_cW ad cA σ)) {σ : tc_S} {l1 : Int32} {q : Int32 × tc_S} (h : m_XT_elementOrNone_a12 σ l1 = some q) : Met l yXT_elementOrNone [.code yXT_elementOrNone cXT_elementOrNone 2 (some .int)] (tc_R 0) (tc_Pc D cA (tc_cW ad cA σ) [.ref (ad 12), .int l1]) (tc_Qi D (tc_cW ad cA q.2) A q.1) 0 0 A :=
  tc_met (by decide) (Nat.le_of_ble_eq_true rfl) (fun _ _ _ _ _ _ _ C hP _ hl => w_XT_elementOrNone_a12_0 C hJ h hP va_S.rf hl)
def m_XT_elementOrNone_a13_17 (σ : tc_S) (k0 : Int32) : Option (Int32 × tc_S) := (some (k0, σ))
set_option maxHeartbeats 4000000 in
set_option maxRecDepth 100000 in
theorem w_XT_elementOrNone_a13_17 (C : tc_C p s m args meth c RXT cXT_elementOrNone 2 (some .int) D cA) (hJ : ∀ σ, va_D A (tc_cW ad cA σ)) {q : Int32 × tc_S} {σ : tc_S} {k0 : Int32} {H : Heap} {locs : List Loc} {ls : Array Slot} (h : m_XT_elementOrNone_a13_17 σ k0 = some q) (hP : va_P D vwCl (tc_cW ad cA σ) H) (hS : va_S A s.heap H locs) (hl : lv_has ls 2 []) : W p l e (tc_R 0) s m args below meth c H locs 0 0 (MQ below (tc_Qi D (tc_cW ad cA q.2) A q.1) args s 0 0 A) (F0 m 17 ls [.int k0]) := by
  have C0 := C
  obtain ⟨hx, hb, hml, hown, ⟨hK, hN⟩, hr, hlk⟩ := C
  unfold m_XT_elementOrNone_a13_17 at h
  exact tc_cri C0 hP hS h dXT_elementOrNone_17
def m_XT_elementOrNone_a13_16 (σ : tc_S) : Option (Int32 × tc_S) := (m_XT_elementOrNone_a13_17 σ (-1))
set_option maxHeartbeats 4000000 in
set_option maxRecDepth 100000 in
theorem w_XT_elementOrNone_a13_16 (C : tc_C p s m args meth c RXT cXT_elementOrNone 2 (some .int) D cA) (hJ : ∀ σ, va_D A (tc_cW ad cA σ)) {q : Int32 × tc_S} {σ : tc_S} {H : Heap} {locs : List Loc} {ls : Array Slot} (h : m_XT_elementOrNone_a13_16 σ = some q) (hP : va_P D vwCl (tc_cW ad cA σ) H) (hS : va_S A s.heap H locs) (hl : lv_has ls 2 []) : W p l e (tc_R 0) s m args below meth c H locs 0 0 (MQ below (tc_Qi D (tc_cW ad cA q.2) A q.1) args s 0 0 A) (F0 m 16 ls []) := by
  have C0 := C
  obtain ⟨hx, hb, hml, hown, ⟨hK, hN⟩, hr, hlk⟩ := C
  unfold m_XT_elementOrNone_a13_16 at h
  refine lv_iconst (v := (-1)) hx hb dXT_elementOrNone_16 (by decide) ?_
  exact w_XT_elementOrNone_a13_17 C0 hJ h hP hS (lv_sub hl [] rfl)
def m_XT_elementOrNone_a13 (σ : tc_S) (l1 : Int32) : Option (Int32 × tc_S) := (if l1 < 0 then (m_XT_elementOrNone_a13_16 σ) else (if 2 ≤ l1 then (m_XT_elementOrNone_a13_16 σ) else (tc_gd l1 2 (m_XT_elementOrNone_a13_17 σ (tc_ga σ 4 l1)))))
set_option maxHeartbeats 4000000 in
set_option maxRecDepth 100000 in
theorem w_XT_elementOrNone_a13_0 (C : tc_C p s m args meth c RXT cXT_elementOrNone 2 (some .int) D cA) (hJ : ∀ σ, va_D A (tc_cW ad cA σ)) {q : Int32 × tc_S} {σ : tc_S} {l1 : Int32} {H : Heap} {locs : List Loc} {ls : Array Slot} (h : m_XT_elementOrNone_a13 σ l1 = some q) (hP : va_P D vwCl (tc_cW ad cA σ) H) (hS : va_S A s.heap H locs) (hl : lv_has ls 2 [(0, .ref (ad 13)), (1, .int l1)]) : W p l e (tc_R 0) s m args below meth c H locs 0 0 (MQ below (tc_Qi D (tc_cW ad cA q.2) A q.1) args s 0 0 A) (F0 m 0 ls []) := by
  have C0 := C
  obtain ⟨hx, hb, hml, hown, ⟨hK, hN⟩, hr, hlk⟩ := C
  unfold m_XT_elementOrNone_a13 at h
  refine lv_iload_n hx hb dXT_elementOrNone_0 rfl (lv_at hl 1 rfl) ?_
  refine lv_if_lt (tgt := 16) hx hb dXT_elementOrNone_1 (by decide) (fun hc => ?_) (fun hc => ?_)
  · have h := tc_ip hc h
    exact w_XT_elementOrNone_a13_16 C0 hJ h hP hS (lv_sub hl [] rfl)
  · have h := tc_in hc h
    refine lv_iload_n hx hb dXT_elementOrNone_4 rfl (lv_at hl 1 rfl) ?_
    refine lv_aload_n hx hb dXT_elementOrNone_5 rfl (lv_at hl 0 rfl) ?_
    refine tc_cal13 C0 hP dXT_elementOrNone_6 ?_
    refine lv_icmp_ge (tgt := 16) hx hb dXT_elementOrNone_7 (by decide) (fun hc => ?_) (fun hc => ?_)
    · have h := tc_ip hc h
      exact w_XT_elementOrNone_a13_16 C0 hJ h hP hS (lv_sub hl [] rfl)
    · have h := tc_in hc h
      refine lv_aload_n hx hb dXT_elementOrNone_10 rfl (lv_at hl 0 rfl) ?_
      refine lv_iload_n hx hb dXT_elementOrNone_11 rfl (lv_at hl 1 rfl) ?_
      obtain ⟨hi, h⟩ := tc_gd_some h
      refine tc_cld13 C0 hP hi dXT_elementOrNone_12 ?_
      refine lv_goto (tgt := 17) hx hb dXT_elementOrNone_13 (by decide) ?_
      exact w_XT_elementOrNone_a13_17 C0 hJ h hP hS (lv_sub hl [] rfl)
theorem k_XT_elementOrNone_a13 (hJ : ∀ σ, va_D A (tc_cW ad cA σ)) {σ : tc_S} {l1 : Int32} {q : Int32 × tc_S} (h : m_XT_elementOrNone_a13 σ l1 = some q) : Met l yXT_elementOrNone [.code yXT_elementOrNone cXT_elementOrNone 2 (some .int)] (tc_R 0) (tc_Pc D cA (tc_cW ad cA σ) [.ref (ad 13), .int l1]) (tc_Qi D (tc_cW ad cA q.2) A q.1) 0 0 A :=
  tc_met (by decide) (Nat.le_of_ble_eq_true rfl) (fun _ _ _ _ _ _ _ C hP _ hl => w_XT_elementOrNone_a13_0 C hJ h hP va_S.rf hl)
def m_XT_elementOrNone_a14_17 (σ : tc_S) (k0 : Int32) : Option (Int32 × tc_S) := (some (k0, σ))
set_option maxHeartbeats 4000000 in
set_option maxRecDepth 100000 in
theorem w_XT_elementOrNone_a14_17 (C : tc_C p s m args meth c RXT cXT_elementOrNone 2 (some .int) D cA) (hJ : ∀ σ, va_D A (tc_cW ad cA σ)) {q : Int32 × tc_S} {σ : tc_S} {k0 : Int32} {H : Heap} {locs : List Loc} {ls : Array Slot} (h : m_XT_elementOrNone_a14_17 σ k0 = some q) (hP : va_P D vwCl (tc_cW ad cA σ) H) (hS : va_S A s.heap H locs) (hl : lv_has ls 2 []) : W p l e (tc_R 0) s m args below meth c H locs 0 0 (MQ below (tc_Qi D (tc_cW ad cA q.2) A q.1) args s 0 0 A) (F0 m 17 ls [.int k0]) := by
  have C0 := C
  obtain ⟨hx, hb, hml, hown, ⟨hK, hN⟩, hr, hlk⟩ := C
  unfold m_XT_elementOrNone_a14_17 at h
  exact tc_cri C0 hP hS h dXT_elementOrNone_17
def m_XT_elementOrNone_a14_16 (σ : tc_S) : Option (Int32 × tc_S) := (m_XT_elementOrNone_a14_17 σ (-1))
set_option maxHeartbeats 4000000 in
set_option maxRecDepth 100000 in
theorem w_XT_elementOrNone_a14_16 (C : tc_C p s m args meth c RXT cXT_elementOrNone 2 (some .int) D cA) (hJ : ∀ σ, va_D A (tc_cW ad cA σ)) {q : Int32 × tc_S} {σ : tc_S} {H : Heap} {locs : List Loc} {ls : Array Slot} (h : m_XT_elementOrNone_a14_16 σ = some q) (hP : va_P D vwCl (tc_cW ad cA σ) H) (hS : va_S A s.heap H locs) (hl : lv_has ls 2 []) : W p l e (tc_R 0) s m args below meth c H locs 0 0 (MQ below (tc_Qi D (tc_cW ad cA q.2) A q.1) args s 0 0 A) (F0 m 16 ls []) := by
  have C0 := C
  obtain ⟨hx, hb, hml, hown, ⟨hK, hN⟩, hr, hlk⟩ := C
  unfold m_XT_elementOrNone_a14_16 at h
  refine lv_iconst (v := (-1)) hx hb dXT_elementOrNone_16 (by decide) ?_
  exact w_XT_elementOrNone_a14_17 C0 hJ h hP hS (lv_sub hl [] rfl)
def m_XT_elementOrNone_a14 (σ : tc_S) (l1 : Int32) : Option (Int32 × tc_S) := (if l1 < 0 then (m_XT_elementOrNone_a14_16 σ) else (if 16 ≤ l1 then (m_XT_elementOrNone_a14_16 σ) else (tc_gd l1 16 (m_XT_elementOrNone_a14_17 σ (tc_ga σ 5 l1)))))
set_option maxHeartbeats 4000000 in
set_option maxRecDepth 100000 in
theorem w_XT_elementOrNone_a14_0 (C : tc_C p s m args meth c RXT cXT_elementOrNone 2 (some .int) D cA) (hJ : ∀ σ, va_D A (tc_cW ad cA σ)) {q : Int32 × tc_S} {σ : tc_S} {l1 : Int32} {H : Heap} {locs : List Loc} {ls : Array Slot} (h : m_XT_elementOrNone_a14 σ l1 = some q) (hP : va_P D vwCl (tc_cW ad cA σ) H) (hS : va_S A s.heap H locs) (hl : lv_has ls 2 [(0, .ref (ad 14)), (1, .int l1)]) : W p l e (tc_R 0) s m args below meth c H locs 0 0 (MQ below (tc_Qi D (tc_cW ad cA q.2) A q.1) args s 0 0 A) (F0 m 0 ls []) := by
  have C0 := C
  obtain ⟨hx, hb, hml, hown, ⟨hK, hN⟩, hr, hlk⟩ := C
  unfold m_XT_elementOrNone_a14 at h
  refine lv_iload_n hx hb dXT_elementOrNone_0 rfl (lv_at hl 1 rfl) ?_
  refine lv_if_lt (tgt := 16) hx hb dXT_elementOrNone_1 (by decide) (fun hc => ?_) (fun hc => ?_)
  · have h := tc_ip hc h
    exact w_XT_elementOrNone_a14_16 C0 hJ h hP hS (lv_sub hl [] rfl)
  · have h := tc_in hc h
    refine lv_iload_n hx hb dXT_elementOrNone_4 rfl (lv_at hl 1 rfl) ?_
    refine lv_aload_n hx hb dXT_elementOrNone_5 rfl (lv_at hl 0 rfl) ?_
    refine tc_cal14 C0 hP dXT_elementOrNone_6 ?_
    refine lv_icmp_ge (tgt := 16) hx hb dXT_elementOrNone_7 (by decide) (fun hc => ?_) (fun hc => ?_)
    · have h := tc_ip hc h
      exact w_XT_elementOrNone_a14_16 C0 hJ h hP hS (lv_sub hl [] rfl)
    · have h := tc_in hc h
      refine lv_aload_n hx hb dXT_elementOrNone_10 rfl (lv_at hl 0 rfl) ?_
      refine lv_iload_n hx hb dXT_elementOrNone_11 rfl (lv_at hl 1 rfl) ?_
      obtain ⟨hi, h⟩ := tc_gd_some h
      refine tc_cld14 C0 hP hi dXT_elementOrNone_12 ?_
      refine lv_goto (tgt := 17) hx hb dXT_elementOrNone_13 (by decide) ?_
      exact w_XT_elementOrNone_a14_17 C0 hJ h hP hS (lv_sub hl [] rfl)
theorem k_XT_elementOrNone_a14 (hJ : ∀ σ, va_D A (tc_cW ad cA σ)) {σ : tc_S} {l1 : Int32} {q : Int32 × tc_S} (h : m_XT_elementOrNone_a14 σ l1 = some q) : Met l yXT_elementOrNone [.code yXT_elementOrNone cXT_elementOrNone 2 (some .int)] (tc_R 0) (tc_Pc D cA (tc_cW ad cA σ) [.ref (ad 14), .int l1]) (tc_Qi D (tc_cW ad cA q.2) A q.1) 0 0 A :=
  tc_met (by decide) (Nat.le_of_ble_eq_true rfl) (fun _ _ _ _ _ _ _ C hP _ hl => w_XT_elementOrNone_a14_0 C hJ h hP va_S.rf hl)
def m_XT_portState_63 (σ : tc_S) (k0 : Int32) : Option (Int32 × tc_S) := (some (k0, σ))
set_option maxHeartbeats 4000000 in
set_option maxRecDepth 100000 in
theorem w_XT_portState_63 (C : tc_C p s m args meth c RXT cXT_portState 2 (some .int) D cA) (hJ : ∀ σ, va_D A (tc_cW ad cA σ)) {q : Int32 × tc_S} {σ : tc_S} {k0 : Int32} {H : Heap} {locs : List Loc} {ls : Array Slot} (h : m_XT_portState_63 σ k0 = some q) (hP : va_P D vwCl (tc_cW ad cA σ) H) (hS : va_S A s.heap H locs) (hl : lv_has ls 2 []) : W p l e (tc_R 0) s m args below meth c H locs 0 0 (MQ below (tc_Qi D (tc_cW ad cA q.2) A q.1) args s 0 0 A) (F0 m 63 ls [.int k0]) := by
  have C0 := C
  obtain ⟨hx, hb, hml, hown, ⟨hK, hN⟩, hr, hlk⟩ := C
  unfold m_XT_portState_63 at h
  exact tc_cri C0 hP hS h dXT_portState_63
def m_XT_portState_95 (σ : tc_S) (k0 k1 : Int32) : Option (Int32 × tc_S) := (some ((k1 + k0), σ))
set_option maxHeartbeats 4000000 in
set_option maxRecDepth 100000 in
theorem w_XT_portState_95 (C : tc_C p s m args meth c RXT cXT_portState 2 (some .int) D cA) (hJ : ∀ σ, va_D A (tc_cW ad cA σ)) {q : Int32 × tc_S} {σ : tc_S} {k0 k1 : Int32} {H : Heap} {locs : List Loc} {ls : Array Slot} (h : m_XT_portState_95 σ k0 k1 = some q) (hP : va_P D vwCl (tc_cW ad cA σ) H) (hS : va_S A s.heap H locs) (hl : lv_has ls 2 []) : W p l e (tc_R 0) s m args below meth c H locs 0 0 (MQ below (tc_Qi D (tc_cW ad cA q.2) A q.1) args s 0 0 A) (F0 m 95 ls [.int k0, .int k1]) := by
  have C0 := C
  obtain ⟨hx, hb, hml, hown, ⟨hK, hN⟩, hr, hlk⟩ := C
  unfold m_XT_portState_95 at h
  refine lv_iadd hx hb dXT_portState_95 ?_
  exact tc_cri C0 hP hS h dXT_portState_96
def m_XT_portState_79 (σ : tc_S) (k0 : Int32) : Option (Int32 × tc_S) := (if (tc_gf σ 31) = 0 then (m_XT_portState_95 σ 0 k0) else (m_XT_portState_95 σ 6 k0))
set_option maxHeartbeats 4000000 in
set_option maxRecDepth 100000 in
theorem w_XT_portState_79 (C : tc_C p s m args meth c RXT cXT_portState 2 (some .int) D cA) (hJ : ∀ σ, va_D A (tc_cW ad cA σ)) {q : Int32 × tc_S} {σ : tc_S} {k0 : Int32} {H : Heap} {locs : List Loc} {ls : Array Slot} (h : m_XT_portState_79 σ k0 = some q) (hP : va_P D vwCl (tc_cW ad cA σ) H) (hS : va_S A s.heap H locs) (hl : lv_has ls 2 [(0, .ref (ad 0))]) : W p l e (tc_R 0) s m args below meth c H locs 0 0 (MQ below (tc_Qi D (tc_cW ad cA q.2) A q.1) args s 0 0 A) (F0 m 79 ls [.int k0]) := by
  have C0 := C
  obtain ⟨hx, hb, hml, hown, ⟨hK, hN⟩, hr, hlk⟩ := C
  unfold m_XT_portState_79 at h
  refine lv_aload_n hx hb dXT_portState_79 rfl (lv_at hl 0 rfl) ?_
  refine tc_cr_XT_beam C0 hP (tc_use hN tw_270) dXT_portState_80 ?_
  refine tc_cgN31 C0 hP (tc_use hN tw_174) dXT_portState_83 ?_
  refine lv_if_eq (tgt := 94) hx hb dXT_portState_86 (by decide) (fun hc => ?_) (fun hc => ?_)
  · have h := tc_ip hc h
    refine lv_iconst (v := 0) hx hb dXT_portState_94 (by decide) ?_
    exact w_XT_portState_95 C0 hJ h hP hS (lv_sub hl [] rfl)
  · have h := tc_in hc h
    refine lv_bipush (v := 6) hx hb dXT_portState_89 (by decide) ?_
    refine lv_goto (tgt := 95) hx hb dXT_portState_91 (by decide) ?_
    exact w_XT_portState_95 C0 hJ h hP hS (lv_sub hl [] rfl)
def m_XT_portState (σ : tc_S) (l1 : Int32) : Option (Int32 × tc_S) := (if l1 = 0 then (some ((tc_gf σ 19), σ)) else (if l1 = 1 then (some ((tc_gf σ 20), σ)) else (if l1 = 2 then (if (tc_gf σ 21) = 0 then (m_XT_portState_63 σ 0) else (m_XT_portState_63 σ 1)) else (if l1 = 3 then (if (tc_gf σ 30) = 0 then (m_XT_portState_79 σ 0) else (m_XT_portState_79 σ 4)) else (some ((-1), σ))))))
set_option maxHeartbeats 4000000 in
set_option maxRecDepth 100000 in
theorem w_XT_portState_0 (C : tc_C p s m args meth c RXT cXT_portState 2 (some .int) D cA) (hJ : ∀ σ, va_D A (tc_cW ad cA σ)) {q : Int32 × tc_S} {σ : tc_S} {l1 : Int32} {H : Heap} {locs : List Loc} {ls : Array Slot} (h : m_XT_portState σ l1 = some q) (hP : va_P D vwCl (tc_cW ad cA σ) H) (hS : va_S A s.heap H locs) (hl : lv_has ls 2 [(0, .ref (ad 0)), (1, .int l1)]) : W p l e (tc_R 0) s m args below meth c H locs 0 0 (MQ below (tc_Qi D (tc_cW ad cA q.2) A q.1) args s 0 0 A) (F0 m 0 ls []) := by
  have C0 := C
  obtain ⟨hx, hb, hml, hown, ⟨hK, hN⟩, hr, hlk⟩ := C
  unfold m_XT_portState at h
  refine lv_iload_n hx hb dXT_portState_0 rfl (lv_at hl 1 rfl) ?_
  by_cases hc0 : l1 = 0
  · have h := tc_ip hc0 h
    refine lv_tableIn (off := 31) (tgt := 32) hx hb dXT_portState_1 (by rw [hc0]; decide) (by rw [hc0]; decide) (by rw [hc0]; decide) (by decide) ?_
    refine lv_aload_n hx hb dXT_portState_32 rfl (lv_at hl 0 rfl) ?_
    refine tc_cr_XT_picture C0 hP (tc_use hN tw_268) dXT_portState_33 ?_
    refine tc_cgN19 C0 hP (tc_use hN tw_88) dXT_portState_36 ?_
    exact tc_cri C0 hP hS h dXT_portState_39
  have h := tc_in hc0 h
  by_cases hc1 : l1 = 1
  · have h := tc_ip hc1 h
    refine lv_tableIn (off := 39) (tgt := 40) hx hb dXT_portState_1 (by rw [hc1]; decide) (by rw [hc1]; decide) (by rw [hc1]; decide) (by decide) ?_
    refine lv_aload_n hx hb dXT_portState_40 rfl (lv_at hl 0 rfl) ?_
    refine tc_cr_XT_picture C0 hP (tc_use hN tw_268) dXT_portState_41 ?_
    refine tc_cgN20 C0 hP (tc_use hN tw_90) dXT_portState_44 ?_
    exact tc_cri C0 hP hS h dXT_portState_47
  have h := tc_in hc1 h
  by_cases hc2 : l1 = 2
  · have h := tc_ip hc2 h
    refine lv_tableIn (off := 47) (tgt := 48) hx hb dXT_portState_1 (by rw [hc2]; decide) (by rw [hc2]; decide) (by rw [hc2]; decide) (by decide) ?_
    refine lv_aload_n hx hb dXT_portState_48 rfl (lv_at hl 0 rfl) ?_
    refine tc_cr_XT_picture C0 hP (tc_use hN tw_268) dXT_portState_49 ?_
    refine tc_cgN21 C0 hP (tc_use hN tw_93) dXT_portState_52 ?_
    refine lv_if_eq (tgt := 62) hx hb dXT_portState_55 (by decide) (fun hc => ?_) (fun hc => ?_)
    · have h := tc_ip hc h
      refine lv_iconst (v := 0) hx hb dXT_portState_62 (by decide) ?_
      exact w_XT_portState_63 C0 hJ h hP hS (lv_sub hl [] rfl)
    · have h := tc_in hc h
      refine lv_iconst (v := 1) hx hb dXT_portState_58 (by decide) ?_
      refine lv_goto (tgt := 63) hx hb dXT_portState_59 (by decide) ?_
      exact w_XT_portState_63 C0 hJ h hP hS (lv_sub hl [] rfl)
  have h := tc_in hc2 h
  by_cases hc3 : l1 = 3
  · have h := tc_ip hc3 h
    refine lv_tableIn (off := 63) (tgt := 64) hx hb dXT_portState_1 (by rw [hc3]; decide) (by rw [hc3]; decide) (by rw [hc3]; decide) (by decide) ?_
    refine lv_aload_n hx hb dXT_portState_64 rfl (lv_at hl 0 rfl) ?_
    refine tc_cr_XT_beam C0 hP (tc_use hN tw_270) dXT_portState_65 ?_
    refine tc_cgN30 C0 hP (tc_use hN tw_171) dXT_portState_68 ?_
    refine lv_if_eq (tgt := 78) hx hb dXT_portState_71 (by decide) (fun hc => ?_) (fun hc => ?_)
    · have h := tc_ip hc h
      refine lv_iconst (v := 0) hx hb dXT_portState_78 (by decide) ?_
      exact w_XT_portState_79 C0 hJ h hP hS (lv_sub hl [0] rfl)
    · have h := tc_in hc h
      refine lv_iconst (v := 4) hx hb dXT_portState_74 (by decide) ?_
      refine lv_goto (tgt := 79) hx hb dXT_portState_75 (by decide) ?_
      exact w_XT_portState_79 C0 hJ h hP hS (lv_sub hl [0] rfl)
  have h := tc_in hc3 h
  have hn0 := lv_neT (a := 0) hc0 (by decide)
  have hn1 := lv_neT (a := 1) hc1 (by decide)
  have hn2 := lv_neT (a := 2) hc2 (by decide)
  have hn3 := lv_neT (a := 3) hc3 (by decide)
  refine lv_tableOut (tgt := 97) hx hb dXT_portState_1 (by omega) (by decide) ?_
  refine lv_iconst (v := (-1)) hx hb dXT_portState_97 (by decide) ?_
  exact tc_cri C0 hP hS h dXT_portState_98
theorem k_XT_portState (hJ : ∀ σ, va_D A (tc_cW ad cA σ)) {σ : tc_S} {l1 : Int32} {q : Int32 × tc_S} (h : m_XT_portState σ l1 = some q) : Met l yXT_portState [.code yXT_portState cXT_portState 2 (some .int)] (tc_R 0) (tc_Pc D cA (tc_cW ad cA σ) [.ref (ad 0), .int l1]) (tc_Qi D (tc_cW ad cA q.2) A q.1) 0 0 A :=
  tc_met (by decide) (Nat.le_of_ble_eq_true rfl) (fun _ _ _ _ _ _ _ C hP _ hl => w_XT_portState_0 C hJ h hP va_S.rf hl)
def m_XT_video_59 (σ : tc_S) (k0 : Int32) : Option (Int32 × tc_S) := (some (k0, σ))
set_option maxHeartbeats 4000000 in
set_option maxRecDepth 100000 in
theorem w_XT_video_59 (C : tc_C p s m args meth c RXT cXT_video 3 (some .int) D cA) (hJ : ∀ σ, va_D A (tc_cW ad cA σ)) {q : Int32 × tc_S} {σ : tc_S} {k0 : Int32} {H : Heap} {locs : List Loc} {ls : Array Slot} (h : m_XT_video_59 σ k0 = some q) (hP : va_P D vwCl (tc_cW ad cA σ) H) (hS : va_S A s.heap H locs) (hl : lv_has ls 3 []) : W p l e (tc_R 1) s m args below meth c H locs 0 0 (MQ below (tc_Qi D (tc_cW ad cA q.2) A q.1) args s 0 0 A) (F0 m 59 ls [.int k0]) := by
  have C0 := C
  obtain ⟨hx, hb, hml, hown, ⟨hK, hN⟩, hr, hlk⟩ := C
  unfold m_XT_video_59 at h
  exact tc_cri C0 hP hS h dXT_video_59
def m_XT_video_58 (σ : tc_S) : Option (Int32 × tc_S) := (m_XT_video_59 σ (-1))
set_option maxHeartbeats 4000000 in
set_option maxRecDepth 100000 in
theorem w_XT_video_58 (C : tc_C p s m args meth c RXT cXT_video 3 (some .int) D cA) (hJ : ∀ σ, va_D A (tc_cW ad cA σ)) {q : Int32 × tc_S} {σ : tc_S} {H : Heap} {locs : List Loc} {ls : Array Slot} (h : m_XT_video_58 σ = some q) (hP : va_P D vwCl (tc_cW ad cA σ) H) (hS : va_S A s.heap H locs) (hl : lv_has ls 3 []) : W p l e (tc_R 1) s m args below meth c H locs 0 0 (MQ below (tc_Qi D (tc_cW ad cA q.2) A q.1) args s 0 0 A) (F0 m 58 ls []) := by
  have C0 := C
  obtain ⟨hx, hb, hml, hown, ⟨hK, hN⟩, hr, hlk⟩ := C
  unfold m_XT_video_58 at h
  refine lv_iconst (v := (-1)) hx hb dXT_video_58 (by decide) ?_
  exact w_XT_video_59 C0 hJ h hP hS (lv_sub hl [] rfl)
def m_XT_video (σ : tc_S) (l1 l2 : Int32) : Option (Int32 × tc_S) := (if l1 = 0 then (if l2 < 0 then (m_XT_video_58 σ) else (if 512 ≤ l2 then (m_XT_video_58 σ) else ((m_XP_vramWord σ l2).bind (fun q52 => (m_XT_video_59 q52.2 q52.1))))) else (if l1 = 1 then ((m_XT_elementOrNone_a12 σ l2).bind (fun q68 => (some (q68.1, q68.2)))) else (if l1 = 2 then ((m_XT_elementOrNone_a13 σ l2).bind (fun q80 => (some (q80.1, q80.2)))) else (if l1 = 3 then ((m_XT_elementOrNone_a14 σ l2).bind (fun q92 => (some (q92.1, q92.2)))) else (if l1 = 4 then ((m_XT_portState σ l2).bind (fun q98 => (some (q98.1, q98.2)))) else (some ((-1), σ)))))))
set_option maxHeartbeats 4000000 in
set_option maxRecDepth 100000 in
theorem w_XT_video_0 (C : tc_C p s m args meth c RXT cXT_video 3 (some .int) D cA) (hJ : ∀ σ, va_D A (tc_cW ad cA σ)) {q : Int32 × tc_S} {σ : tc_S} {l1 l2 : Int32} {H : Heap} {locs : List Loc} {ls : Array Slot} (h : m_XT_video σ l1 l2 = some q) (hP : va_P D vwCl (tc_cW ad cA σ) H) (hS : va_S A s.heap H locs) (hl : lv_has ls 3 [(0, .ref (ad 0)), (1, .int l1), (2, .int l2)]) : W p l e (tc_R 1) s m args below meth c H locs 0 0 (MQ below (tc_Qi D (tc_cW ad cA q.2) A q.1) args s 0 0 A) (F0 m 0 ls []) := by
  have C0 := C
  obtain ⟨hx, hb, hml, hown, ⟨hK, hN⟩, hr, hlk⟩ := C
  unfold m_XT_video at h
  refine lv_iload_n hx hb dXT_video_0 rfl (lv_at hl 1 rfl) ?_
  by_cases hc0 : l1 = 0
  · have h := tc_ip hc0 h
    refine lv_tableIn (off := 35) (tgt := 36) hx hb dXT_video_1 (by rw [hc0]; decide) (by rw [hc0]; decide) (by rw [hc0]; decide) (by decide) ?_
    refine lv_iload_n hx hb dXT_video_36 rfl (lv_at hl 2 rfl) ?_
    refine lv_if_lt (tgt := 58) hx hb dXT_video_37 (by decide) (fun hc => ?_) (fun hc => ?_)
    · have h := tc_ip hc h
      exact w_XT_video_58 C0 hJ h hP hS (lv_sub hl [] rfl)
    · have h := tc_in hc h
      refine lv_iload_n hx hb dXT_video_40 rfl (lv_at hl 2 rfl) ?_
      refine lv_sipush (v := 512) hx hb dXT_video_41 (by decide) ?_
      refine lv_icmp_ge (tgt := 58) hx hb dXT_video_44 (by decide) (fun hc => ?_) (fun hc => ?_)
      · have h := tc_ip hc h
        exact w_XT_video_58 C0 hJ h hP hS (lv_sub hl [] rfl)
      · have h := tc_in hc h
        refine lv_aload_n hx hb dXT_video_47 rfl (lv_at hl 0 rfl) ?_
        refine tc_cr_XT_picture C0 hP (tc_use hN tw_268) dXT_video_48 ?_
        refine lv_iload_n hx hb dXT_video_51 rfl (lv_at hl 2 rfl) ?_
        obtain ⟨q52, e52, h⟩ := tc_bd_some h
        refine tc_cVi (As := [.int l2]) (rest := []) C0 (k_XP_vramWord hJ e52) tv_XT_117 (by decide) (by decide) hP hS hl 3 rfl rfl (Nat.le_of_ble_eq_true rfl) dXT_video_52 rfl (fun H locs hP hS => ?_)
        refine lv_goto (tgt := 59) hx hb dXT_video_55 (by decide) ?_
        exact w_XT_video_59 C0 hJ h hP hS (lv_sub hl [] rfl)
  have h := tc_in hc0 h
  by_cases hc1 : l1 = 1
  · have h := tc_ip hc1 h
    refine lv_tableIn (off := 59) (tgt := 60) hx hb dXT_video_1 (by rw [hc1]; decide) (by rw [hc1]; decide) (by rw [hc1]; decide) (by decide) ?_
    refine lv_aload_n hx hb dXT_video_60 rfl (lv_at hl 0 rfl) ?_
    refine tc_cr_XT_picture C0 hP (tc_use hN tw_268) dXT_video_61 ?_
    refine tc_crN_XP_cram C0 hP (tc_use hN tw_79) dXT_video_64 ?_
    refine lv_iload_n hx hb dXT_video_67 rfl (lv_at hl 2 rfl) ?_
    obtain ⟨q68, e68, h⟩ := tc_bd_some h
    refine tc_cSi (As := [.ref (ad 12), .int l2]) (rest := []) C0 (k_XT_elementOrNone_a12 hJ e68) tv_XT_123 (by decide) (by decide) hP hS hl (Nat.le_of_ble_eq_true rfl) dXT_video_68 rfl (fun H locs hP hS => ?_)
    exact tc_cri C0 hP hS h dXT_video_71
  have h := tc_in hc1 h
  by_cases hc2 : l1 = 2
  · have h := tc_ip hc2 h
    refine lv_tableIn (off := 71) (tgt := 72) hx hb dXT_video_1 (by rw [hc2]; decide) (by rw [hc2]; decide) (by rw [hc2]; decide) (by decide) ?_
    refine lv_aload_n hx hb dXT_video_72 rfl (lv_at hl 0 rfl) ?_
    refine tc_cr_XT_picture C0 hP (tc_use hN tw_268) dXT_video_73 ?_
    refine tc_crN_XP_vsram C0 hP (tc_use hN tw_82) dXT_video_76 ?_
    refine lv_iload_n hx hb dXT_video_79 rfl (lv_at hl 2 rfl) ?_
    obtain ⟨q80, e80, h⟩ := tc_bd_some h
    refine tc_cSi (As := [.ref (ad 13), .int l2]) (rest := []) C0 (k_XT_elementOrNone_a13 hJ e80) tv_XT_123 (by decide) (by decide) hP hS hl (Nat.le_of_ble_eq_true rfl) dXT_video_80 rfl (fun H locs hP hS => ?_)
    exact tc_cri C0 hP hS h dXT_video_83
  have h := tc_in hc2 h
  by_cases hc3 : l1 = 3
  · have h := tc_ip hc3 h
    refine lv_tableIn (off := 83) (tgt := 84) hx hb dXT_video_1 (by rw [hc3]; decide) (by rw [hc3]; decide) (by rw [hc3]; decide) (by decide) ?_
    refine lv_aload_n hx hb dXT_video_84 rfl (lv_at hl 0 rfl) ?_
    refine tc_cr_XT_picture C0 hP (tc_use hN tw_268) dXT_video_85 ?_
    refine tc_crN_XP_registers C0 hP (tc_use hN tw_86) dXT_video_88 ?_
    refine lv_iload_n hx hb dXT_video_91 rfl (lv_at hl 2 rfl) ?_
    obtain ⟨q92, e92, h⟩ := tc_bd_some h
    refine tc_cSi (As := [.ref (ad 14), .int l2]) (rest := []) C0 (k_XT_elementOrNone_a14 hJ e92) tv_XT_123 (by decide) (by decide) hP hS hl (Nat.le_of_ble_eq_true rfl) dXT_video_92 rfl (fun H locs hP hS => ?_)
    exact tc_cri C0 hP hS h dXT_video_95
  have h := tc_in hc3 h
  by_cases hc4 : l1 = 4
  · have h := tc_ip hc4 h
    refine lv_tableIn (off := 95) (tgt := 96) hx hb dXT_video_1 (by rw [hc4]; decide) (by rw [hc4]; decide) (by rw [hc4]; decide) (by decide) ?_
    refine lv_aload_n hx hb dXT_video_96 rfl (lv_at hl 0 rfl) ?_
    refine lv_iload_n hx hb dXT_video_97 rfl (lv_at hl 2 rfl) ?_
    obtain ⟨q98, e98, h⟩ := tc_bd_some h
    refine tc_cVi (As := [.int l2]) (rest := []) C0 (k_XT_portState hJ e98) tv_XT_133 (by decide) (by decide) hP hS hl 0 rfl rfl (Nat.le_of_ble_eq_true rfl) dXT_video_98 rfl (fun H locs hP hS => ?_)
    exact tc_cri C0 hP hS h dXT_video_101
  have h := tc_in hc4 h
  have hn0 := lv_neT (a := 0) hc0 (by decide)
  have hn1 := lv_neT (a := 1) hc1 (by decide)
  have hn2 := lv_neT (a := 2) hc2 (by decide)
  have hn3 := lv_neT (a := 3) hc3 (by decide)
  have hn4 := lv_neT (a := 4) hc4 (by decide)
  refine lv_tableOut (tgt := 102) hx hb dXT_video_1 (by omega) (by decide) ?_
  refine lv_iconst (v := (-1)) hx hb dXT_video_102 (by decide) ?_
  exact tc_cri C0 hP hS h dXT_video_103
theorem k_XT_video (hJ : ∀ σ, va_D A (tc_cW ad cA σ)) {σ : tc_S} {l1 l2 : Int32} {q : Int32 × tc_S} (h : m_XT_video σ l1 l2 = some q) : Met l yXT_video [.code yXT_video cXT_video 3 (some .int)] (tc_R 1) (tc_Pc D cA (tc_cW ad cA σ) [.ref (ad 0), .int l1, .int l2]) (tc_Qi D (tc_cW ad cA q.2) A q.1) 0 0 A :=
  tc_met (by decide) (Nat.le_of_ble_eq_true rfl) (fun _ _ _ _ _ _ _ C hP _ hl => w_XT_video_0 C hJ h hP va_S.rf hl)
def m_XT_pixel_20 (σ : tc_S) : Option (Int32 × tc_S) := (some ((-1), σ))
set_option maxHeartbeats 4000000 in
set_option maxRecDepth 100000 in
theorem w_XT_pixel_20 (C : tc_C p s m args meth c RXT cXT_pixel 3 (some .int) D cA) (hJ : ∀ σ, va_D A (tc_cW ad cA σ)) {q : Int32 × tc_S} {σ : tc_S} {H : Heap} {locs : List Loc} {ls : Array Slot} (h : m_XT_pixel_20 σ = some q) (hP : va_P D vwCl (tc_cW ad cA σ) H) (hS : va_S A s.heap H locs) (hl : lv_has ls 3 []) : W p l e (tc_R 0) s m args below meth c H locs 0 0 (MQ below (tc_Qi D (tc_cW ad cA q.2) A q.1) args s 0 0 A) (F0 m 20 ls []) := by
  have C0 := C
  obtain ⟨hx, hb, hml, hown, ⟨hK, hN⟩, hr, hlk⟩ := C
  unfold m_XT_pixel_20 at h
  refine lv_iconst (v := (-1)) hx hb dXT_pixel_20 (by decide) ?_
  exact tc_cri C0 hP hS h dXT_pixel_21
def m_XT_pixel (σ : tc_S) (l1 l2 : Int32) : Option (Int32 × tc_S) := (if l1 < 0 then (m_XT_pixel_20 σ) else (if 16 ≤ l1 then (m_XT_pixel_20 σ) else (if l2 < 0 then (m_XT_pixel_20 σ) else (if l2 < 8 then (tc_gd ((l2 * 16) + l1) 128 (some ((tc_ga σ 6 ((l2 * 16) + l1)), σ))) else (m_XT_pixel_20 σ)))))
set_option maxHeartbeats 4000000 in
set_option maxRecDepth 100000 in
theorem w_XT_pixel_0 (C : tc_C p s m args meth c RXT cXT_pixel 3 (some .int) D cA) (hJ : ∀ σ, va_D A (tc_cW ad cA σ)) {q : Int32 × tc_S} {σ : tc_S} {l1 l2 : Int32} {H : Heap} {locs : List Loc} {ls : Array Slot} (h : m_XT_pixel σ l1 l2 = some q) (hP : va_P D vwCl (tc_cW ad cA σ) H) (hS : va_S A s.heap H locs) (hl : lv_has ls 3 [(0, .ref (ad 0)), (1, .int l1), (2, .int l2)]) : W p l e (tc_R 0) s m args below meth c H locs 0 0 (MQ below (tc_Qi D (tc_cW ad cA q.2) A q.1) args s 0 0 A) (F0 m 0 ls []) := by
  have C0 := C
  obtain ⟨hx, hb, hml, hown, ⟨hK, hN⟩, hr, hlk⟩ := C
  unfold m_XT_pixel at h
  refine lv_iload_n hx hb dXT_pixel_0 rfl (lv_at hl 1 rfl) ?_
  refine lv_if_lt (tgt := 20) hx hb dXT_pixel_1 (by decide) (fun hc => ?_) (fun hc => ?_)
  · have h := tc_ip hc h
    exact w_XT_pixel_20 C0 hJ h hP hS (lv_sub hl [] rfl)
  · have h := tc_in hc h
    refine lv_iload_n hx hb dXT_pixel_4 rfl (lv_at hl 1 rfl) ?_
    refine lv_bipush (v := 16) hx hb dXT_pixel_5 (by decide) ?_
    refine lv_icmp_ge (tgt := 20) hx hb dXT_pixel_7 (by decide) (fun hc => ?_) (fun hc => ?_)
    · have h := tc_ip hc h
      exact w_XT_pixel_20 C0 hJ h hP hS (lv_sub hl [] rfl)
    · have h := tc_in hc h
      refine lv_iload_n hx hb dXT_pixel_10 rfl (lv_at hl 2 rfl) ?_
      refine lv_if_lt (tgt := 20) hx hb dXT_pixel_11 (by decide) (fun hc => ?_) (fun hc => ?_)
      · have h := tc_ip hc h
        exact w_XT_pixel_20 C0 hJ h hP hS (lv_sub hl [] rfl)
      · have h := tc_in hc h
        refine lv_iload_n hx hb dXT_pixel_14 rfl (lv_at hl 2 rfl) ?_
        refine lv_bipush (v := 8) hx hb dXT_pixel_15 (by decide) ?_
        refine lv_icmp_lt (tgt := 22) hx hb dXT_pixel_17 (by decide) (fun hc => ?_) (fun hc => ?_)
        · have h := tc_ip hc h
          refine lv_aload_n hx hb dXT_pixel_22 rfl (lv_at hl 0 rfl) ?_
          refine tc_cr_XT_painter C0 hP (tc_use hN tw_269) dXT_pixel_23 ?_
          refine tc_crN_XD_screen C0 hP (tc_use hN tw_128) dXT_pixel_26 ?_
          refine lv_iload_n hx hb dXT_pixel_29 rfl (lv_at hl 2 rfl) ?_
          refine lv_bipush (v := 16) hx hb dXT_pixel_30 (by decide) ?_
          refine lv_imul hx hb dXT_pixel_32 ?_
          refine lv_iload_n hx hb dXT_pixel_33 rfl (lv_at hl 1 rfl) ?_
          refine lv_iadd hx hb dXT_pixel_34 ?_
          obtain ⟨hi, h⟩ := tc_gd_some h
          refine tc_cld15 C0 hP hi dXT_pixel_35 ?_
          exact tc_cri C0 hP hS h dXT_pixel_36
        · have h := tc_in hc h
          exact w_XT_pixel_20 C0 hJ h hP hS (lv_sub hl [] rfl)
theorem k_XT_pixel (hJ : ∀ σ, va_D A (tc_cW ad cA σ)) {σ : tc_S} {l1 l2 : Int32} {q : Int32 × tc_S} (h : m_XT_pixel σ l1 l2 = some q) : Met l yXT_pixel [.code yXT_pixel cXT_pixel 3 (some .int)] (tc_R 0) (tc_Pc D cA (tc_cW ad cA σ) [.ref (ad 0), .int l1, .int l2]) (tc_Qi D (tc_cW ad cA q.2) A q.1) 0 0 A :=
  tc_met (by decide) (Nat.le_of_ble_eq_true rfl) (fun _ _ _ _ _ _ _ C hP _ hl => w_XT_pixel_0 C hJ h hP va_S.rf hl)
end WALK_C_07
