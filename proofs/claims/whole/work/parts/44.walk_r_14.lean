section WALK_R_14
variable {p : Program} {l : Launch} {e : Env} {s : State} {m : MethodId} {args : Array Value} {below : List Frame} {meth : Method} {c : Code} {D : va_G} {cA : ClassId} {A : Nat → Prop} {ad : Nat → Nat}
def m_XR_goOn_10 : Nat → tc_S → Option (tc_S)
  | 0, _ => none
  | n + 1, σ => (if (tc_gf σ 28) < 64 then (some σ) else ((m_XR_beginLine (tc_sf (tc_sf σ 28 ((tc_gf σ 28) - 64)) 27 (((tc_gf (tc_sf σ 28 ((tc_gf σ 28) - 64)) 27) + 1) - ((tc_gf (tc_sf σ 28 ((tc_gf σ 28) - 64)) 27) + 1) / 12 * 12))).bind (fun q44 => (m_XR_goOn_10 n q44))))
set_option maxHeartbeats 4000000 in
set_option maxRecDepth 100000 in
theorem w_XR_goOn_10 (C : tc_C p s m args meth c RXR cXR_goOn 2 none D cA) (hJ : ∀ σ, va_D A (tc_rW ad cA σ)) {q : tc_S} : ∀ (n : Nat) {σ : tc_S} {H : Heap} {locs : List Loc} {ls : Array Slot} (h : m_XR_goOn_10 n σ = some q) (hP : va_P D vwCl (tc_rW ad cA σ) H) (hS : va_S A s.heap H locs) (hl : lv_has ls 2 [(0, .ref (ad 0))]), W p l e (tc_R 6) s m args below meth c H locs 0 0 (MQ below (tc_Qv D (tc_rW ad cA q) A) args s 0 0 A) (F0 m 10 ls []) := by
  have C0 := C
  obtain ⟨hx, hb, hml, hown, ⟨hK, hN⟩, hr, hlk⟩ := C
  intro n
  induction n with
  | zero =>
    intro σ  H locs ls h hP hS hl
    exact absurd h (by simp [m_XR_goOn_10])
  | succ n ih =>
    intro σ  H locs ls h hP hS hl
    unfold m_XR_goOn_10 at h
    refine lv_aload_n hx hb dXR_goOn_10 rfl (lv_at hl 0 rfl) ?_
    refine tc_rg28 C0 hP (tc_use hN tw_663) dXR_goOn_11 ?_
    refine lv_bipush (v := 64) hx hb dXR_goOn_14 (by decide) ?_
    refine lv_icmp_lt (tgt := 50) hx hb dXR_goOn_16 (by decide) (fun hc => ?_) (fun hc => ?_)
    · have h := tc_ip hc h
      exact tc_rrv C0 hP hS h dXR_goOn_50
    · have h := tc_in hc h
      refine lv_aload_n hx hb dXR_goOn_19 rfl (lv_at hl 0 rfl) ?_
      refine lv_dup hx hb dXR_goOn_20 rfl ?_
      refine tc_rg28 C0 hP (tc_use hN tw_663) dXR_goOn_21 ?_
      refine lv_bipush (v := 64) hx hb dXR_goOn_24 (by decide) ?_
      refine lv_isub hx hb dXR_goOn_26 ?_
      refine tc_rp28 C0 hJ hP hS (tc_use hN tw_663) dXR_goOn_27 (fun H locs hP hS => ?_)
      refine lv_aload_n hx hb dXR_goOn_30 rfl (lv_at hl 0 rfl) ?_
      refine lv_aload_n hx hb dXR_goOn_31 rfl (lv_at hl 0 rfl) ?_
      refine tc_rg27 C0 hP (tc_use hN tw_662) dXR_goOn_32 ?_
      refine lv_iconst (v := 1) hx hb dXR_goOn_35 (by decide) ?_
      refine lv_iadd hx hb dXR_goOn_36 ?_
      refine lv_bipush (v := 12) hx hb dXR_goOn_37 (by decide) ?_
      refine lv_irem hx hb dXR_goOn_39 (by decide) ?_
      refine tc_rp27 C0 hJ hP hS (tc_use hN tw_662) dXR_goOn_40 (fun H locs hP hS => ?_)
      refine lv_aload_n hx hb dXR_goOn_43 rfl (lv_at hl 0 rfl) ?_
      obtain ⟨q44, e44, h⟩ := tc_bd_some h
      refine tc_cVv (As := []) (rest := []) C0 (k_XR_beginLine hJ e44) tv_XR_271 (by decide) (by decide) hP hS hl 0 rfl rfl (Nat.le_of_ble_eq_true rfl) dXR_goOn_44 rfl (fun H locs hP hS => ?_)
      refine lv_goto (tgt := 10) hx hb dXR_goOn_47 (by decide) ?_
      exact ih h hP hS (lv_sub hl [0] rfl)
def m_XR_goOn (σ : tc_S) (l1 : Int32) : Option (tc_S) := (m_XR_goOn_10 20000000 (tc_sf σ 28 ((tc_gf σ 28) + l1)))
set_option maxHeartbeats 4000000 in
set_option maxRecDepth 100000 in
theorem w_XR_goOn_0 (C : tc_C p s m args meth c RXR cXR_goOn 2 none D cA) (hJ : ∀ σ, va_D A (tc_rW ad cA σ)) {q : tc_S} {σ : tc_S} {l1 : Int32} {H : Heap} {locs : List Loc} {ls : Array Slot} (h : m_XR_goOn σ l1 = some q) (hP : va_P D vwCl (tc_rW ad cA σ) H) (hS : va_S A s.heap H locs) (hl : lv_has ls 2 [(0, .ref (ad 0)), (1, .int l1)]) : W p l e (tc_R 6) s m args below meth c H locs 0 0 (MQ below (tc_Qv D (tc_rW ad cA q) A) args s 0 0 A) (F0 m 0 ls []) := by
  have C0 := C
  obtain ⟨hx, hb, hml, hown, ⟨hK, hN⟩, hr, hlk⟩ := C
  unfold m_XR_goOn at h
  refine lv_aload_n hx hb dXR_goOn_0 rfl (lv_at hl 0 rfl) ?_
  refine lv_dup hx hb dXR_goOn_1 rfl ?_
  refine tc_rg28 C0 hP (tc_use hN tw_663) dXR_goOn_2 ?_
  refine lv_iload_n hx hb dXR_goOn_5 rfl (lv_at hl 1 rfl) ?_
  refine lv_iadd hx hb dXR_goOn_6 ?_
  refine tc_rp28 C0 hJ hP hS (tc_use hN tw_663) dXR_goOn_7 (fun H locs hP hS => ?_)
  exact w_XR_goOn_10 C0 hJ _ h hP hS (lv_sub hl [0] rfl)
theorem k_XR_goOn (hJ : ∀ σ, va_D A (tc_rW ad cA σ)) {σ : tc_S} {l1 : Int32} {q : tc_S} (h : m_XR_goOn σ l1 = some q) : Met l yXR_goOn [.code yXR_goOn cXR_goOn 2 none] (tc_R 6) (tc_Pc D cA (tc_rW ad cA σ) [.ref (ad 0), .int l1]) (tc_Qv D (tc_rW ad cA q) A) 0 0 A :=
  tc_met (by decide) (Nat.le_of_ble_eq_true rfl) (fun _ _ _ _ _ _ _ C hP _ hl => w_XR_goOn_0 C hJ h hP va_S.rf hl)
def m_XR_step (σ : tc_S) : Option (Int32 × tc_S) := ((m_XR_mainStep (tc_sf σ 34 0)).bind (fun q6 => ((m_XR_give q6.2 q6.1).bind (fun q12 => ((m_XR_goOn q12 (q6.1 + (tc_gf q12 34))).bind (fun q22 => (some ((q6.1 + (tc_gf q22 34)), q22))))))))
set_option maxHeartbeats 4000000 in
set_option maxRecDepth 100000 in
theorem w_XR_step_0 (C : tc_C p s m args meth c RXR cXR_step 2 (some .int) D cA) (hJ : ∀ σ, va_D A (tc_rW ad cA σ)) {q : Int32 × tc_S} {σ : tc_S} {H : Heap} {locs : List Loc} {ls : Array Slot} (h : m_XR_step σ = some q) (hP : va_P D vwCl (tc_rW ad cA σ) H) (hS : va_S A s.heap H locs) (hl : lv_has ls 2 [(0, .ref (ad 0))]) : W p l e (tc_R 7) s m args below meth c H locs 0 0 (MQ below (tc_Qi D (tc_rW ad cA q.2) A q.1) args s 0 0 A) (F0 m 0 ls []) := by
  have C0 := C
  obtain ⟨hx, hb, hml, hown, ⟨hK, hN⟩, hr, hlk⟩ := C
  unfold m_XR_step at h
  refine lv_aload_n hx hb dXR_step_0 rfl (lv_at hl 0 rfl) ?_
  refine lv_iconst (v := 0) hx hb dXR_step_1 (by decide) ?_
  refine tc_rp34 C0 hJ hP hS (tc_use hN tw_633) dXR_step_2 (fun H locs hP hS => ?_)
  refine lv_aload_n hx hb dXR_step_5 rfl (lv_at hl 0 rfl) ?_
  obtain ⟨q6, e6, h⟩ := tc_bd_some h
  refine tc_cVi (As := []) (rest := []) C0 (k_XR_mainStep hJ e6) tv_XR_309 (by decide) (by decide) hP hS hl 0 rfl rfl (Nat.le_of_ble_eq_true rfl) dXR_step_6 rfl (fun H locs hP hS => ?_)
  refine lv_istore_n (lv' := [(1, .int q6.1), (0, .ref (ad 0))]) hx hb dXR_step_9 rfl hl (by decide) rfl (fun ls hl => ?_)
  refine lv_aload_n hx hb dXR_step_10 rfl (lv_at hl 1 rfl) ?_
  refine lv_iload_n hx hb dXR_step_11 rfl (lv_at hl 0 rfl) ?_
  obtain ⟨q12, e12, h⟩ := tc_bd_some h
  refine tc_cVv (As := [.int q6.1]) (rest := []) C0 (k_XR_give hJ e12) tv_XR_312 (by decide) (by decide) hP hS hl 0 rfl rfl (Nat.le_of_ble_eq_true rfl) dXR_step_12 rfl (fun H locs hP hS => ?_)
  refine lv_aload_n hx hb dXR_step_15 rfl (lv_at hl 1 rfl) ?_
  refine lv_iload_n hx hb dXR_step_16 rfl (lv_at hl 0 rfl) ?_
  refine lv_aload_n hx hb dXR_step_17 rfl (lv_at hl 1 rfl) ?_
  refine tc_rg34 C0 hP (tc_use hN tw_633) dXR_step_18 ?_
  refine lv_iadd hx hb dXR_step_21 ?_
  obtain ⟨q22, e22, h⟩ := tc_bd_some h
  refine tc_cVv (As := [.int (q6.1 + (tc_gf q12 34))]) (rest := []) C0 (k_XR_goOn hJ e22) tv_XR_315 (by decide) (by decide) hP hS hl 0 rfl rfl (Nat.le_of_ble_eq_true rfl) dXR_step_22 rfl (fun H locs hP hS => ?_)
  refine lv_iload_n hx hb dXR_step_25 rfl (lv_at hl 0 rfl) ?_
  refine lv_aload_n hx hb dXR_step_26 rfl (lv_at hl 1 rfl) ?_
  refine tc_rg34 C0 hP (tc_use hN tw_633) dXR_step_27 ?_
  refine lv_iadd hx hb dXR_step_30 ?_
  exact tc_rri C0 hP hS h dXR_step_31
theorem k_XR_step (hJ : ∀ σ, va_D A (tc_rW ad cA σ)) {σ : tc_S} {q : Int32 × tc_S} (h : m_XR_step σ = some q) : Met l yXR_step [.code yXR_step cXR_step 2 (some .int)] (tc_R 7) (tc_Pc D cA (tc_rW ad cA σ) [.ref (ad 0)]) (tc_Qi D (tc_rW ad cA q.2) A q.1) 0 0 A :=
  tc_met (by decide) (Nat.le_of_ble_eq_true rfl) (fun _ _ _ _ _ _ _ C hP _ hl => w_XR_step_0 C hJ h hP va_S.rf hl)
def m_XR_run_11 (σ : tc_S) : Option (Int32 × tc_S) := (some ((-1), σ))
set_option maxHeartbeats 4000000 in
set_option maxRecDepth 100000 in
theorem w_XR_run_11 (C : tc_C p s m args meth c RXR cXR_run 3 (some .int) D cA) (hJ : ∀ σ, va_D A (tc_rW ad cA σ)) {q : Int32 × tc_S} {σ : tc_S} {H : Heap} {locs : List Loc} {ls : Array Slot} (h : m_XR_run_11 σ = some q) (hP : va_P D vwCl (tc_rW ad cA σ) H) (hS : va_S A s.heap H locs) (hl : lv_has ls 3 []) : W p l e (tc_R 8) s m args below meth c H locs 0 0 (MQ below (tc_Qi D (tc_rW ad cA q.2) A q.1) args s 0 0 A) (F0 m 11 ls []) := by
  have C0 := C
  obtain ⟨hx, hb, hml, hown, ⟨hK, hN⟩, hr, hlk⟩ := C
  unfold m_XR_run_11 at h
  refine lv_iconst (v := (-1)) hx hb dXR_run_11 (by decide) ?_
  exact tc_rri C0 hP hS h dXR_run_12
def m_XR_run_15 : Nat → tc_S → Int32 → Int32 → Option (Int32 × tc_S)
  | 0, _, _, _ => none
  | n + 1, σ, l1, l2 => (if l1 ≤ l2 then (some (l2, σ)) else ((m_XR_step σ).bind (fun q22 => (m_XR_run_15 n q22.2 l1 (l2 + q22.1)))))
set_option maxHeartbeats 4000000 in
set_option maxRecDepth 100000 in
theorem w_XR_run_15 (C : tc_C p s m args meth c RXR cXR_run 3 (some .int) D cA) (hJ : ∀ σ, va_D A (tc_rW ad cA σ)) {q : Int32 × tc_S} : ∀ (n : Nat) {σ : tc_S} {l1 l2 : Int32} {H : Heap} {locs : List Loc} {ls : Array Slot} (h : m_XR_run_15 n σ l1 l2 = some q) (hP : va_P D vwCl (tc_rW ad cA σ) H) (hS : va_S A s.heap H locs) (hl : lv_has ls 3 [(0, .ref (ad 0)), (1, .int l1), (2, .int l2)]), W p l e (tc_R 8) s m args below meth c H locs 0 0 (MQ below (tc_Qi D (tc_rW ad cA q.2) A q.1) args s 0 0 A) (F0 m 15 ls []) := by
  have C0 := C
  obtain ⟨hx, hb, hml, hown, ⟨hK, hN⟩, hr, hlk⟩ := C
  intro n
  induction n with
  | zero =>
    intro σ l1 l2 H locs ls h hP hS hl
    exact absurd h (by simp [m_XR_run_15])
  | succ n ih =>
    intro σ l1 l2 H locs ls h hP hS hl
    unfold m_XR_run_15 at h
    refine lv_iload_n hx hb dXR_run_15 rfl (lv_at hl 2 rfl) ?_
    refine lv_iload_n hx hb dXR_run_16 rfl (lv_at hl 1 rfl) ?_
    refine lv_icmp_ge (tgt := 30) hx hb dXR_run_17 (by decide) (fun hc => ?_) (fun hc => ?_)
    · have h := tc_ip hc h
      refine lv_iload_n hx hb dXR_run_30 rfl (lv_at hl 2 rfl) ?_
      exact tc_rri C0 hP hS h dXR_run_31
    · have h := tc_in hc h
      refine lv_iload_n hx hb dXR_run_20 rfl (lv_at hl 2 rfl) ?_
      refine lv_aload_n hx hb dXR_run_21 rfl (lv_at hl 0 rfl) ?_
      obtain ⟨q22, e22, h⟩ := tc_bd_some h
      refine tc_cVi (As := []) (rest := [.int l2]) C0 (k_XR_step hJ e22) tv_XR_318 (by decide) (by decide) hP hS hl 0 rfl rfl (Nat.le_of_ble_eq_true rfl) dXR_run_22 rfl (fun H locs hP hS => ?_)
      refine lv_iadd hx hb dXR_run_25 ?_
      refine lv_istore_n (lv' := [(2, .int (l2 + q22.1)), (0, .ref (ad 0)), (1, .int l1)]) hx hb dXR_run_26 rfl hl (by decide) rfl (fun ls hl => ?_)
      refine lv_goto (tgt := 15) hx hb dXR_run_27 (by decide) ?_
      exact ih h hP hS (lv_sub hl [1, 2, 0] rfl)
def m_XR_run (σ : tc_S) (l1 : Int32) : Option (Int32 × tc_S) := (if l1 < 0 then (m_XR_run_11 σ) else (if l1 ≤ 800 then (m_XR_run_15 2000 σ l1 0) else (m_XR_run_11 σ)))
set_option maxHeartbeats 4000000 in
set_option maxRecDepth 100000 in
theorem w_XR_run_0 (C : tc_C p s m args meth c RXR cXR_run 3 (some .int) D cA) (hJ : ∀ σ, va_D A (tc_rW ad cA σ)) {q : Int32 × tc_S} {σ : tc_S} {l1 : Int32} {H : Heap} {locs : List Loc} {ls : Array Slot} (h : m_XR_run σ l1 = some q) (hP : va_P D vwCl (tc_rW ad cA σ) H) (hS : va_S A s.heap H locs) (hl : lv_has ls 3 [(0, .ref (ad 0)), (1, .int l1)]) : W p l e (tc_R 8) s m args below meth c H locs 0 0 (MQ below (tc_Qi D (tc_rW ad cA q.2) A q.1) args s 0 0 A) (F0 m 0 ls []) := by
  have C0 := C
  obtain ⟨hx, hb, hml, hown, ⟨hK, hN⟩, hr, hlk⟩ := C
  unfold m_XR_run at h
  refine lv_iload_n hx hb dXR_run_0 rfl (lv_at hl 1 rfl) ?_
  refine lv_if_lt (tgt := 11) hx hb dXR_run_1 (by decide) (fun hc => ?_) (fun hc => ?_)
  · have h := tc_ip hc h
    exact w_XR_run_11 C0 hJ h hP hS (lv_sub hl [] rfl)
  · have h := tc_in hc h
    refine lv_iload_n hx hb dXR_run_4 rfl (lv_at hl 1 rfl) ?_
    refine lv_sipush (v := 800) hx hb dXR_run_5 (by decide) ?_
    refine lv_icmp_le (tgt := 13) hx hb dXR_run_8 (by decide) (fun hc => ?_) (fun hc => ?_)
    · have h := tc_ip hc h
      refine lv_iconst (v := 0) hx hb dXR_run_13 (by decide) ?_
      refine lv_istore_n (lv' := [(2, .int 0), (0, .ref (ad 0)), (1, .int l1)]) hx hb dXR_run_14 rfl hl (by decide) rfl (fun ls hl => ?_)
      exact w_XR_run_15 C0 hJ _ h hP hS (lv_sub hl [1, 2, 0] rfl)
    · have h := tc_in hc h
      exact w_XR_run_11 C0 hJ h hP hS (lv_sub hl [] rfl)
theorem k_XR_run (hJ : ∀ σ, va_D A (tc_rW ad cA σ)) {σ : tc_S} {l1 : Int32} {q : Int32 × tc_S} (h : m_XR_run σ l1 = some q) : Met l yXR_run [.code yXR_run cXR_run 3 (some .int)] (tc_R 8) (tc_Pc D cA (tc_rW ad cA σ) [.ref (ad 0), .int l1]) (tc_Qi D (tc_rW ad cA q.2) A q.1) 0 0 A :=
  tc_met (by decide) (Nat.le_of_ble_eq_true rfl) (fun _ _ _ _ _ _ _ C hP _ hl => w_XR_run_0 C hJ h hP va_S.rf hl)
def m_XR_memory (σ : tc_S) (l1 : Int32) : Option (Int32 × tc_S) := ((m_XR_quiet σ l1).bind (fun q2 => (some (q2.1, q2.2))))
set_option maxHeartbeats 4000000 in
set_option maxRecDepth 100000 in
theorem w_XR_memory_0 (C : tc_C p s m args meth c RXR cXR_memory 2 (some .int) D cA) (hJ : ∀ σ, va_D A (tc_rW ad cA σ)) {q : Int32 × tc_S} {σ : tc_S} {l1 : Int32} {H : Heap} {locs : List Loc} {ls : Array Slot} (h : m_XR_memory σ l1 = some q) (hP : va_P D vwCl (tc_rW ad cA σ) H) (hS : va_S A s.heap H locs) (hl : lv_has ls 2 [(0, .ref (ad 0)), (1, .int l1)]) : W p l e (tc_R 2) s m args below meth c H locs 0 0 (MQ below (tc_Qi D (tc_rW ad cA q.2) A q.1) args s 0 0 A) (F0 m 0 ls []) := by
  have C0 := C
  obtain ⟨hx, hb, hml, hown, ⟨hK, hN⟩, hr, hlk⟩ := C
  unfold m_XR_memory at h
  refine lv_aload_n hx hb dXR_memory_0 rfl (lv_at hl 0 rfl) ?_
  refine lv_iload_n hx hb dXR_memory_1 rfl (lv_at hl 1 rfl) ?_
  obtain ⟨q2, e2, h⟩ := tc_bd_some h
  refine tc_cVi (As := [.int l1]) (rest := []) C0 (k_XR_quiet hJ e2) tv_XR_76 (by decide) (by decide) hP hS hl 0 rfl rfl (Nat.le_of_ble_eq_true rfl) dXR_memory_2 rfl (fun H locs hP hS => ?_)
  exact tc_rri C0 hP hS h dXR_memory_5
theorem k_XR_memory (hJ : ∀ σ, va_D A (tc_rW ad cA σ)) {σ : tc_S} {l1 : Int32} {q : Int32 × tc_S} (h : m_XR_memory σ l1 = some q) : Met l yXR_memory [.code yXR_memory cXR_memory 2 (some .int)] (tc_R 2) (tc_Pc D cA (tc_rW ad cA σ) [.ref (ad 0), .int l1]) (tc_Qi D (tc_rW ad cA q.2) A q.1) 0 0 A :=
  tc_met (by decide) (Nat.le_of_ble_eq_true rfl) (fun _ _ _ _ _ _ _ C hP _ hl => w_XR_memory_0 C hJ h hP va_S.rf hl)
def m_XR_register_10 (σ : tc_S) : Option (Int32 × tc_S) := (some ((-1), σ))
set_option maxHeartbeats 4000000 in
set_option maxRecDepth 100000 in
theorem w_XR_register_10 (C : tc_C p s m args meth c RXR cXR_register 2 (some .int) D cA) (hJ : ∀ σ, va_D A (tc_rW ad cA σ)) {q : Int32 × tc_S} {σ : tc_S} {H : Heap} {locs : List Loc} {ls : Array Slot} (h : m_XR_register_10 σ = some q) (hP : va_P D vwCl (tc_rW ad cA σ) H) (hS : va_S A s.heap H locs) (hl : lv_has ls 2 []) : W p l e (tc_R 1) s m args below meth c H locs 0 0 (MQ below (tc_Qi D (tc_rW ad cA q.2) A q.1) args s 0 0 A) (F0 m 10 ls []) := by
  have C0 := C
  obtain ⟨hx, hb, hml, hown, ⟨hK, hN⟩, hr, hlk⟩ := C
  unfold m_XR_register_10 at h
  refine lv_iconst (v := (-1)) hx hb dXR_register_10 (by decide) ?_
  exact tc_rri C0 hP hS h dXR_register_11
def m_XR_register_111 (σ : tc_S) (k0 k1 : Int32) : Option (Int32 × tc_S) := (some ((k1 + k0), σ))
set_option maxHeartbeats 4000000 in
set_option maxRecDepth 100000 in
theorem w_XR_register_111 (C : tc_C p s m args meth c RXR cXR_register 2 (some .int) D cA) (hJ : ∀ σ, va_D A (tc_rW ad cA σ)) {q : Int32 × tc_S} {σ : tc_S} {k0 k1 : Int32} {H : Heap} {locs : List Loc} {ls : Array Slot} (h : m_XR_register_111 σ k0 k1 = some q) (hP : va_P D vwCl (tc_rW ad cA σ) H) (hS : va_S A s.heap H locs) (hl : lv_has ls 2 []) : W p l e (tc_R 1) s m args below meth c H locs 0 0 (MQ below (tc_Qi D (tc_rW ad cA q.2) A q.1) args s 0 0 A) (F0 m 111 ls [.int k0, .int k1]) := by
  have C0 := C
  obtain ⟨hx, hb, hml, hown, ⟨hK, hN⟩, hr, hlk⟩ := C
  unfold m_XR_register_111 at h
  refine lv_iadd hx hb dXR_register_111 ?_
  exact tc_rri C0 hP hS h dXR_register_112
def m_XR_register_99 (σ : tc_S) (k0 : Int32) : Option (Int32 × tc_S) := (if (tc_gf σ 23) ≤ 0 then (m_XR_register_111 σ 0 k0) else (m_XR_register_111 σ 2 k0))
set_option maxHeartbeats 4000000 in
set_option maxRecDepth 100000 in
theorem w_XR_register_99 (C : tc_C p s m args meth c RXR cXR_register 2 (some .int) D cA) (hJ : ∀ σ, va_D A (tc_rW ad cA σ)) {q : Int32 × tc_S} {σ : tc_S} {k0 : Int32} {H : Heap} {locs : List Loc} {ls : Array Slot} (h : m_XR_register_99 σ k0 = some q) (hP : va_P D vwCl (tc_rW ad cA σ) H) (hS : va_S A s.heap H locs) (hl : lv_has ls 2 [(0, .ref (ad 0))]) : W p l e (tc_R 1) s m args below meth c H locs 0 0 (MQ below (tc_Qi D (tc_rW ad cA q.2) A q.1) args s 0 0 A) (F0 m 99 ls [.int k0]) := by
  have C0 := C
  obtain ⟨hx, hb, hml, hown, ⟨hK, hN⟩, hr, hlk⟩ := C
  unfold m_XR_register_99 at h
  refine lv_aload_n hx hb dXR_register_99 rfl (lv_at hl 0 rfl) ?_
  refine tc_rg23 C0 hP (tc_use hN tw_658) dXR_register_100 ?_
  refine lv_if_le (tgt := 110) hx hb dXR_register_103 (by decide) (fun hc => ?_) (fun hc => ?_)
  · have h := tc_ip hc h
    refine lv_iconst (v := 0) hx hb dXR_register_110 (by decide) ?_
    exact w_XR_register_111 C0 hJ h hP hS (lv_sub hl [] rfl)
  · have h := tc_in hc h
    refine lv_iconst (v := 2) hx hb dXR_register_106 (by decide) ?_
    refine lv_goto (tgt := 111) hx hb dXR_register_107 (by decide) ?_
    exact w_XR_register_111 C0 hJ h hP hS (lv_sub hl [] rfl)
def m_XR_register_198 (σ : tc_S) (k0 k1 : Int32) : Option (Int32 × tc_S) := (some ((k1 + k0), σ))
set_option maxHeartbeats 4000000 in
set_option maxRecDepth 100000 in
theorem w_XR_register_198 (C : tc_C p s m args meth c RXR cXR_register 2 (some .int) D cA) (hJ : ∀ σ, va_D A (tc_rW ad cA σ)) {q : Int32 × tc_S} {σ : tc_S} {k0 k1 : Int32} {H : Heap} {locs : List Loc} {ls : Array Slot} (h : m_XR_register_198 σ k0 k1 = some q) (hP : va_P D vwCl (tc_rW ad cA σ) H) (hS : va_S A s.heap H locs) (hl : lv_has ls 2 []) : W p l e (tc_R 1) s m args below meth c H locs 0 0 (MQ below (tc_Qi D (tc_rW ad cA q.2) A q.1) args s 0 0 A) (F0 m 198 ls [.int k0, .int k1]) := by
  have C0 := C
  obtain ⟨hx, hb, hml, hown, ⟨hK, hN⟩, hr, hlk⟩ := C
  unfold m_XR_register_198 at h
  refine lv_iadd hx hb dXR_register_198 ?_
  exact tc_rri C0 hP hS h dXR_register_199
def m_XR_register_184 (σ : tc_S) (k0 k1 : Int32) : Option (Int32 × tc_S) := (if (tc_gf σ 16) = 0 then (m_XR_register_198 σ 0 (k1 + k0)) else (m_XR_register_198 σ 16 (k1 + k0)))
set_option maxHeartbeats 4000000 in
set_option maxRecDepth 100000 in
theorem w_XR_register_184 (C : tc_C p s m args meth c RXR cXR_register 2 (some .int) D cA) (hJ : ∀ σ, va_D A (tc_rW ad cA σ)) {q : Int32 × tc_S} {σ : tc_S} {k0 k1 : Int32} {H : Heap} {locs : List Loc} {ls : Array Slot} (h : m_XR_register_184 σ k0 k1 = some q) (hP : va_P D vwCl (tc_rW ad cA σ) H) (hS : va_S A s.heap H locs) (hl : lv_has ls 2 [(0, .ref (ad 0))]) : W p l e (tc_R 1) s m args below meth c H locs 0 0 (MQ below (tc_Qi D (tc_rW ad cA q.2) A q.1) args s 0 0 A) (F0 m 184 ls [.int k0, .int k1]) := by
  have C0 := C
  obtain ⟨hx, hb, hml, hown, ⟨hK, hN⟩, hr, hlk⟩ := C
  unfold m_XR_register_184 at h
  refine lv_iadd hx hb dXR_register_184 ?_
  refine lv_aload_n hx hb dXR_register_185 rfl (lv_at hl 0 rfl) ?_
  refine tc_rg16 C0 hP (tc_use hN tw_647) dXR_register_186 ?_
  refine lv_if_eq (tgt := 197) hx hb dXR_register_189 (by decide) (fun hc => ?_) (fun hc => ?_)
  · have h := tc_ip hc h
    refine lv_iconst (v := 0) hx hb dXR_register_197 (by decide) ?_
    exact w_XR_register_198 C0 hJ h hP hS (lv_sub hl [] rfl)
  · have h := tc_in hc h
    refine lv_bipush (v := 16) hx hb dXR_register_192 (by decide) ?_
    refine lv_goto (tgt := 198) hx hb dXR_register_194 (by decide) ?_
    exact w_XR_register_198 C0 hJ h hP hS (lv_sub hl [] rfl)
def m_XR_register_170 (σ : tc_S) (k0 k1 : Int32) : Option (Int32 × tc_S) := (if (tc_gf σ 15) = 0 then (m_XR_register_184 σ 0 (k1 + k0)) else (m_XR_register_184 σ 8 (k1 + k0)))
set_option maxHeartbeats 4000000 in
set_option maxRecDepth 100000 in
theorem w_XR_register_170 (C : tc_C p s m args meth c RXR cXR_register 2 (some .int) D cA) (hJ : ∀ σ, va_D A (tc_rW ad cA σ)) {q : Int32 × tc_S} {σ : tc_S} {k0 k1 : Int32} {H : Heap} {locs : List Loc} {ls : Array Slot} (h : m_XR_register_170 σ k0 k1 = some q) (hP : va_P D vwCl (tc_rW ad cA σ) H) (hS : va_S A s.heap H locs) (hl : lv_has ls 2 [(0, .ref (ad 0))]) : W p l e (tc_R 1) s m args below meth c H locs 0 0 (MQ below (tc_Qi D (tc_rW ad cA q.2) A q.1) args s 0 0 A) (F0 m 170 ls [.int k0, .int k1]) := by
  have C0 := C
  obtain ⟨hx, hb, hml, hown, ⟨hK, hN⟩, hr, hlk⟩ := C
  unfold m_XR_register_170 at h
  refine lv_iadd hx hb dXR_register_170 ?_
  refine lv_aload_n hx hb dXR_register_171 rfl (lv_at hl 0 rfl) ?_
  refine tc_rg15 C0 hP (tc_use hN tw_646) dXR_register_172 ?_
  refine lv_if_eq (tgt := 183) hx hb dXR_register_175 (by decide) (fun hc => ?_) (fun hc => ?_)
  · have h := tc_ip hc h
    refine lv_iconst (v := 0) hx hb dXR_register_183 (by decide) ?_
    exact w_XR_register_184 C0 hJ h hP hS (lv_sub hl [0] rfl)
  · have h := tc_in hc h
    refine lv_bipush (v := 8) hx hb dXR_register_178 (by decide) ?_
    refine lv_goto (tgt := 184) hx hb dXR_register_180 (by decide) ?_
    exact w_XR_register_184 C0 hJ h hP hS (lv_sub hl [0] rfl)
def m_XR_register_157 (σ : tc_S) (k0 k1 : Int32) : Option (Int32 × tc_S) := (if (tc_gf σ 14) = 0 then (m_XR_register_170 σ 0 (k1 + k0)) else (m_XR_register_170 σ 4 (k1 + k0)))
set_option maxHeartbeats 4000000 in
set_option maxRecDepth 100000 in
theorem w_XR_register_157 (C : tc_C p s m args meth c RXR cXR_register 2 (some .int) D cA) (hJ : ∀ σ, va_D A (tc_rW ad cA σ)) {q : Int32 × tc_S} {σ : tc_S} {k0 k1 : Int32} {H : Heap} {locs : List Loc} {ls : Array Slot} (h : m_XR_register_157 σ k0 k1 = some q) (hP : va_P D vwCl (tc_rW ad cA σ) H) (hS : va_S A s.heap H locs) (hl : lv_has ls 2 [(0, .ref (ad 0))]) : W p l e (tc_R 1) s m args below meth c H locs 0 0 (MQ below (tc_Qi D (tc_rW ad cA q.2) A q.1) args s 0 0 A) (F0 m 157 ls [.int k0, .int k1]) := by
  have C0 := C
  obtain ⟨hx, hb, hml, hown, ⟨hK, hN⟩, hr, hlk⟩ := C
  unfold m_XR_register_157 at h
  refine lv_iadd hx hb dXR_register_157 ?_
  refine lv_aload_n hx hb dXR_register_158 rfl (lv_at hl 0 rfl) ?_
  refine tc_rg14 C0 hP (tc_use hN tw_645) dXR_register_159 ?_
  refine lv_if_eq (tgt := 169) hx hb dXR_register_162 (by decide) (fun hc => ?_) (fun hc => ?_)
  · have h := tc_ip hc h
    refine lv_iconst (v := 0) hx hb dXR_register_169 (by decide) ?_
    exact w_XR_register_170 C0 hJ h hP hS (lv_sub hl [0] rfl)
  · have h := tc_in hc h
    refine lv_iconst (v := 4) hx hb dXR_register_165 (by decide) ?_
    refine lv_goto (tgt := 170) hx hb dXR_register_166 (by decide) ?_
    exact w_XR_register_170 C0 hJ h hP hS (lv_sub hl [0] rfl)
def m_XR_register_145 (σ : tc_S) (k0 : Int32) : Option (Int32 × tc_S) := (if (tc_gf σ 13) = 0 then (m_XR_register_157 σ 0 k0) else (m_XR_register_157 σ 2 k0))
set_option maxHeartbeats 4000000 in
set_option maxRecDepth 100000 in
theorem w_XR_register_145 (C : tc_C p s m args meth c RXR cXR_register 2 (some .int) D cA) (hJ : ∀ σ, va_D A (tc_rW ad cA σ)) {q : Int32 × tc_S} {σ : tc_S} {k0 : Int32} {H : Heap} {locs : List Loc} {ls : Array Slot} (h : m_XR_register_145 σ k0 = some q) (hP : va_P D vwCl (tc_rW ad cA σ) H) (hS : va_S A s.heap H locs) (hl : lv_has ls 2 [(0, .ref (ad 0))]) : W p l e (tc_R 1) s m args below meth c H locs 0 0 (MQ below (tc_Qi D (tc_rW ad cA q.2) A q.1) args s 0 0 A) (F0 m 145 ls [.int k0]) := by
  have C0 := C
  obtain ⟨hx, hb, hml, hown, ⟨hK, hN⟩, hr, hlk⟩ := C
  unfold m_XR_register_145 at h
  refine lv_aload_n hx hb dXR_register_145 rfl (lv_at hl 0 rfl) ?_
  refine tc_rg13 C0 hP (tc_use hN tw_644) dXR_register_146 ?_
  refine lv_if_eq (tgt := 156) hx hb dXR_register_149 (by decide) (fun hc => ?_) (fun hc => ?_)
  · have h := tc_ip hc h
    refine lv_iconst (v := 0) hx hb dXR_register_156 (by decide) ?_
    exact w_XR_register_157 C0 hJ h hP hS (lv_sub hl [0] rfl)
  · have h := tc_in hc h
    refine lv_iconst (v := 2) hx hb dXR_register_152 (by decide) ?_
    refine lv_goto (tgt := 157) hx hb dXR_register_153 (by decide) ?_
    exact w_XR_register_157 C0 hJ h hP hS (lv_sub hl [0] rfl)
def m_XR_register (σ : tc_S) (l1 : Int32) : Option (Int32 × tc_S) := (if l1 < 0 then (m_XR_register_10 σ) else (if l1 ≤ 16 then (if 8 ≤ l1 then (if l1 = 8 then (some ((tc_gf σ 0), σ)) else (if l1 = 9 then (some ((tc_gf σ 1), σ)) else (if l1 = 10 then ((m_XR_flagWord σ).bind (fun q83 => (some (q83.1, q83.2)))) else (if l1 = 11 then (if (tc_gf σ 7) = 0 then (m_XR_register_99 σ 0) else (m_XR_register_99 σ 1)) else (if l1 = 12 then (some ((tc_gf σ 8), σ)) else (if l1 = 13 then (some ((tc_gf σ 9), σ)) else (if l1 = 14 then (some ((tc_gf σ 10), σ)) else (if l1 = 15 then (some ((tc_gf σ 11), σ)) else (if (tc_gf σ 12) = 0 then (m_XR_register_145 σ 0) else (m_XR_register_145 σ 1)))))))))) else (tc_gd l1 8 (some ((tc_ga σ 0 l1), σ)))) else (m_XR_register_10 σ)))
set_option maxHeartbeats 4000000 in
set_option maxRecDepth 100000 in
theorem w_XR_register_0 (C : tc_C p s m args meth c RXR cXR_register 2 (some .int) D cA) (hJ : ∀ σ, va_D A (tc_rW ad cA σ)) {q : Int32 × tc_S} {σ : tc_S} {l1 : Int32} {H : Heap} {locs : List Loc} {ls : Array Slot} (h : m_XR_register σ l1 = some q) (hP : va_P D vwCl (tc_rW ad cA σ) H) (hS : va_S A s.heap H locs) (hl : lv_has ls 2 [(0, .ref (ad 0)), (1, .int l1)]) : W p l e (tc_R 1) s m args below meth c H locs 0 0 (MQ below (tc_Qi D (tc_rW ad cA q.2) A q.1) args s 0 0 A) (F0 m 0 ls []) := by
  have C0 := C
  obtain ⟨hx, hb, hml, hown, ⟨hK, hN⟩, hr, hlk⟩ := C
  unfold m_XR_register at h
  refine lv_iload_n hx hb dXR_register_0 rfl (lv_at hl 1 rfl) ?_
  refine lv_if_lt (tgt := 10) hx hb dXR_register_1 (by decide) (fun hc => ?_) (fun hc => ?_)
  · have h := tc_ip hc h
    exact w_XR_register_10 C0 hJ h hP hS (lv_sub hl [] rfl)
  · have h := tc_in hc h
    refine lv_iload_n hx hb dXR_register_4 rfl (lv_at hl 1 rfl) ?_
    refine lv_bipush (v := 16) hx hb dXR_register_5 (by decide) ?_
    refine lv_icmp_le (tgt := 12) hx hb dXR_register_7 (by decide) (fun hc => ?_) (fun hc => ?_)
    · have h := tc_ip hc h
      refine lv_iload_n hx hb dXR_register_12 rfl (lv_at hl 1 rfl) ?_
      refine lv_bipush (v := 8) hx hb dXR_register_13 (by decide) ?_
      refine lv_icmp_ge (tgt := 25) hx hb dXR_register_15 (by decide) (fun hc => ?_) (fun hc => ?_)
      · have h := tc_ip hc h
        refine lv_iload_n hx hb dXR_register_25 rfl (lv_at hl 1 rfl) ?_
        by_cases hc0 : l1 = 8
        · have h := tc_ip hc0 h
          refine lv_tableIn (off := 46) (tgt := 72) hx hb dXR_register_26 (by rw [hc0]; decide) (by rw [hc0]; decide) (by rw [hc0]; decide) (by decide) ?_
          refine lv_aload_n hx hb dXR_register_72 rfl (lv_at hl 0 rfl) ?_
          refine tc_rg0 C0 hP (tc_use hN tw_624) dXR_register_73 ?_
          exact tc_rri C0 hP hS h dXR_register_76
        have h := tc_in hc0 h
        by_cases hc1 : l1 = 9
        · have h := tc_ip hc1 h
          refine lv_tableIn (off := 51) (tgt := 77) hx hb dXR_register_26 (by rw [hc1]; decide) (by rw [hc1]; decide) (by rw [hc1]; decide) (by decide) ?_
          refine lv_aload_n hx hb dXR_register_77 rfl (lv_at hl 0 rfl) ?_
          refine tc_rg1 C0 hP (tc_use hN tw_625) dXR_register_78 ?_
          exact tc_rri C0 hP hS h dXR_register_81
        have h := tc_in hc1 h
        by_cases hc2 : l1 = 10
        · have h := tc_ip hc2 h
          refine lv_tableIn (off := 56) (tgt := 82) hx hb dXR_register_26 (by rw [hc2]; decide) (by rw [hc2]; decide) (by rw [hc2]; decide) (by decide) ?_
          refine lv_aload_n hx hb dXR_register_82 rfl (lv_at hl 0 rfl) ?_
          obtain ⟨q83, e83, h⟩ := tc_bd_some h
          refine tc_cVi (As := []) (rest := []) C0 (k_XR_flagWord hJ e83) tv_XR_186 (by decide) (by decide) hP hS hl 0 rfl rfl (Nat.le_of_ble_eq_true rfl) dXR_register_83 rfl (fun H locs hP hS => ?_)
          exact tc_rri C0 hP hS h dXR_register_86
        have h := tc_in hc2 h
        by_cases hc3 : l1 = 11
        · have h := tc_ip hc3 h
          refine lv_tableIn (off := 61) (tgt := 87) hx hb dXR_register_26 (by rw [hc3]; decide) (by rw [hc3]; decide) (by rw [hc3]; decide) (by decide) ?_
          refine lv_aload_n hx hb dXR_register_87 rfl (lv_at hl 0 rfl) ?_
          refine tc_rg7 C0 hP (tc_use hN tw_631) dXR_register_88 ?_
          refine lv_if_eq (tgt := 98) hx hb dXR_register_91 (by decide) (fun hc => ?_) (fun hc => ?_)
          · have h := tc_ip hc h
            refine lv_iconst (v := 0) hx hb dXR_register_98 (by decide) ?_
            exact w_XR_register_99 C0 hJ h hP hS (lv_sub hl [0] rfl)
          · have h := tc_in hc h
            refine lv_iconst (v := 1) hx hb dXR_register_94 (by decide) ?_
            refine lv_goto (tgt := 99) hx hb dXR_register_95 (by decide) ?_
            exact w_XR_register_99 C0 hJ h hP hS (lv_sub hl [0] rfl)
        have h := tc_in hc3 h
        by_cases hc4 : l1 = 12
        · have h := tc_ip hc4 h
          refine lv_tableIn (off := 87) (tgt := 113) hx hb dXR_register_26 (by rw [hc4]; decide) (by rw [hc4]; decide) (by rw [hc4]; decide) (by decide) ?_
          refine lv_aload_n hx hb dXR_register_113 rfl (lv_at hl 0 rfl) ?_
          refine tc_rg8 C0 hP (tc_use hN tw_639) dXR_register_114 ?_
          exact tc_rri C0 hP hS h dXR_register_117
        have h := tc_in hc4 h
        by_cases hc5 : l1 = 13
        · have h := tc_ip hc5 h
          refine lv_tableIn (off := 92) (tgt := 118) hx hb dXR_register_26 (by rw [hc5]; decide) (by rw [hc5]; decide) (by rw [hc5]; decide) (by decide) ?_
          refine lv_aload_n hx hb dXR_register_118 rfl (lv_at hl 0 rfl) ?_
          refine tc_rg9 C0 hP (tc_use hN tw_640) dXR_register_119 ?_
          exact tc_rri C0 hP hS h dXR_register_122
        have h := tc_in hc5 h
        by_cases hc6 : l1 = 14
        · have h := tc_ip hc6 h
          refine lv_tableIn (off := 97) (tgt := 123) hx hb dXR_register_26 (by rw [hc6]; decide) (by rw [hc6]; decide) (by rw [hc6]; decide) (by decide) ?_
          refine lv_aload_n hx hb dXR_register_123 rfl (lv_at hl 0 rfl) ?_
          refine tc_rg10 C0 hP (tc_use hN tw_641) dXR_register_124 ?_
          exact tc_rri C0 hP hS h dXR_register_127
        have h := tc_in hc6 h
        by_cases hc7 : l1 = 15
        · have h := tc_ip hc7 h
          refine lv_tableIn (off := 102) (tgt := 128) hx hb dXR_register_26 (by rw [hc7]; decide) (by rw [hc7]; decide) (by rw [hc7]; decide) (by decide) ?_
          refine lv_aload_n hx hb dXR_register_128 rfl (lv_at hl 0 rfl) ?_
          refine tc_rg11 C0 hP (tc_use hN tw_642) dXR_register_129 ?_
          exact tc_rri C0 hP hS h dXR_register_132
        have h := tc_in hc7 h
        have hn0 := lv_neT (a := 8) hc0 (by decide)
        have hn1 := lv_neT (a := 9) hc1 (by decide)
        have hn2 := lv_neT (a := 10) hc2 (by decide)
        have hn3 := lv_neT (a := 11) hc3 (by decide)
        have hn4 := lv_neT (a := 12) hc4 (by decide)
        have hn5 := lv_neT (a := 13) hc5 (by decide)
        have hn6 := lv_neT (a := 14) hc6 (by decide)
        have hn7 := lv_neT (a := 15) hc7 (by decide)
        refine lv_tableOut (tgt := 133) hx hb dXR_register_26 (by omega) (by decide) ?_
        refine lv_aload_n hx hb dXR_register_133 rfl (lv_at hl 0 rfl) ?_
        refine tc_rg12 C0 hP (tc_use hN tw_643) dXR_register_134 ?_
        refine lv_if_eq (tgt := 144) hx hb dXR_register_137 (by decide) (fun hc => ?_) (fun hc => ?_)
        · have h := tc_ip hc h
          refine lv_iconst (v := 0) hx hb dXR_register_144 (by decide) ?_
          exact w_XR_register_145 C0 hJ h hP hS (lv_sub hl [0] rfl)
        · have h := tc_in hc h
          refine lv_iconst (v := 1) hx hb dXR_register_140 (by decide) ?_
          refine lv_goto (tgt := 145) hx hb dXR_register_141 (by decide) ?_
          exact w_XR_register_145 C0 hJ h hP hS (lv_sub hl [0] rfl)
      · have h := tc_in hc h
        refine lv_aload_n hx hb dXR_register_18 rfl (lv_at hl 0 rfl) ?_
        refine tc_rr_XR_d C0 hP (tc_use hN tw_623) dXR_register_19 ?_
        refine lv_iload_n hx hb dXR_register_22 rfl (lv_at hl 1 rfl) ?_
        obtain ⟨hi, h⟩ := tc_gd_some h
        refine tc_rld3 C0 hP hi dXR_register_23 ?_
        exact tc_rri C0 hP hS h dXR_register_24
    · have h := tc_in hc h
      exact w_XR_register_10 C0 hJ h hP hS (lv_sub hl [] rfl)
theorem k_XR_register (hJ : ∀ σ, va_D A (tc_rW ad cA σ)) {σ : tc_S} {l1 : Int32} {q : Int32 × tc_S} (h : m_XR_register σ l1 = some q) : Met l yXR_register [.code yXR_register cXR_register 2 (some .int)] (tc_R 1) (tc_Pc D cA (tc_rW ad cA σ) [.ref (ad 0), .int l1]) (tc_Qi D (tc_rW ad cA q.2) A q.1) 0 0 A :=
  tc_met (by decide) (Nat.le_of_ble_eq_true rfl) (fun _ _ _ _ _ _ _ C hP _ hl => w_XR_register_0 C hJ h hP va_S.rf hl)
def m_XR_seed_10 (σ : tc_S) : Option (Int32 × tc_S) := (some (0, σ))
set_option maxHeartbeats 4000000 in
set_option maxRecDepth 100000 in
theorem w_XR_seed_10 (C : tc_C p s m args meth c RXR cXR_seed 3 (some .boolean) D cA) (hJ : ∀ σ, va_D A (tc_rW ad cA σ)) {q : Int32 × tc_S} {σ : tc_S} {H : Heap} {locs : List Loc} {ls : Array Slot} (h : m_XR_seed_10 σ = some q) (hP : va_P D vwCl (tc_rW ad cA σ) H) (hS : va_S A s.heap H locs) (hl : lv_has ls 3 []) : W p l e (tc_R 0) s m args below meth c H locs 0 0 (MQ below (tc_Qi D (tc_rW ad cA q.2) A q.1) args s 0 0 A) (F0 m 10 ls []) := by
  have C0 := C
  obtain ⟨hx, hb, hml, hown, ⟨hK, hN⟩, hr, hlk⟩ := C
  unfold m_XR_seed_10 at h
  refine lv_iconst (v := 0) hx hb dXR_seed_10 (by decide) ?_
  exact tc_rrz C0 hP hS ⟨by decide, by decide⟩ h dXR_seed_11
def m_XR_seed (σ : tc_S) (l1 l2 : Int32) : Option (Int32 × tc_S) := (if l1 < 0 then (m_XR_seed_10 σ) else (if l1 ≤ 127 then (tc_gd l1 128 (some (1, (tc_sa σ 1 l1 (l2 &&& 255))))) else (m_XR_seed_10 σ)))
set_option maxHeartbeats 4000000 in
set_option maxRecDepth 100000 in
theorem w_XR_seed_0 (C : tc_C p s m args meth c RXR cXR_seed 3 (some .boolean) D cA) (hJ : ∀ σ, va_D A (tc_rW ad cA σ)) {q : Int32 × tc_S} {σ : tc_S} {l1 l2 : Int32} {H : Heap} {locs : List Loc} {ls : Array Slot} (h : m_XR_seed σ l1 l2 = some q) (hP : va_P D vwCl (tc_rW ad cA σ) H) (hS : va_S A s.heap H locs) (hl : lv_has ls 3 [(0, .ref (ad 0)), (1, .int l1), (2, .int l2)]) : W p l e (tc_R 0) s m args below meth c H locs 0 0 (MQ below (tc_Qi D (tc_rW ad cA q.2) A q.1) args s 0 0 A) (F0 m 0 ls []) := by
  have C0 := C
  obtain ⟨hx, hb, hml, hown, ⟨hK, hN⟩, hr, hlk⟩ := C
  unfold m_XR_seed at h
  refine lv_iload_n hx hb dXR_seed_0 rfl (lv_at hl 1 rfl) ?_
  refine lv_if_lt (tgt := 10) hx hb dXR_seed_1 (by decide) (fun hc => ?_) (fun hc => ?_)
  · have h := tc_ip hc h
    exact w_XR_seed_10 C0 hJ h hP hS (lv_sub hl [] rfl)
  · have h := tc_in hc h
    refine lv_iload_n hx hb dXR_seed_4 rfl (lv_at hl 1 rfl) ?_
    refine lv_bipush (v := 127) hx hb dXR_seed_5 (by decide) ?_
    refine lv_icmp_le (tgt := 12) hx hb dXR_seed_7 (by decide) (fun hc => ?_) (fun hc => ?_)
    · have h := tc_ip hc h
      refine lv_aload_n hx hb dXR_seed_12 rfl (lv_at hl 0 rfl) ?_
      refine tc_rr_XR_bytes C0 hP (tc_use hN tw_638) dXR_seed_13 ?_
      refine lv_iload_n hx hb dXR_seed_16 rfl (lv_at hl 1 rfl) ?_
      refine lv_iload_n hx hb dXR_seed_17 rfl (lv_at hl 2 rfl) ?_
      refine lv_sipush (v := 255) hx hb dXR_seed_18 (by decide) ?_
      refine lv_iand hx hb dXR_seed_21 ?_
      obtain ⟨hi, h⟩ := tc_gd_some h
      refine tc_rst4 C0 hJ hP hS hi dXR_seed_22 (fun H locs hP hS => ?_)
      refine lv_iconst (v := 1) hx hb dXR_seed_23 (by decide) ?_
      exact tc_rrz C0 hP hS ⟨by decide, by decide⟩ h dXR_seed_24
    · have h := tc_in hc h
      exact w_XR_seed_10 C0 hJ h hP hS (lv_sub hl [] rfl)
theorem k_XR_seed (hJ : ∀ σ, va_D A (tc_rW ad cA σ)) {σ : tc_S} {l1 l2 : Int32} {q : Int32 × tc_S} (h : m_XR_seed σ l1 l2 = some q) : Met l yXR_seed [.code yXR_seed cXR_seed 3 (some .boolean)] (tc_R 0) (tc_Pc D cA (tc_rW ad cA σ) [.ref (ad 0), .int l1, .int l2]) (tc_Qi D (tc_rW ad cA q.2) A q.1) 0 0 A :=
  tc_met (by decide) (Nat.le_of_ble_eq_true rfl) (fun _ _ _ _ _ _ _ C hP _ hl => w_XR_seed_0 C hJ h hP va_S.rf hl)
def m_XR_video_56 (σ : tc_S) (k0 : Int32) : Option (Int32 × tc_S) := (some (k0, σ))
set_option maxHeartbeats 4000000 in
set_option maxRecDepth 100000 in
theorem w_XR_video_56 (C : tc_C p s m args meth c RXR cXR_video 3 (some .int) D cA) (hJ : ∀ σ, va_D A (tc_rW ad cA σ)) {q : Int32 × tc_S} {σ : tc_S} {k0 : Int32} {H : Heap} {locs : List Loc} {ls : Array Slot} (h : m_XR_video_56 σ k0 = some q) (hP : va_P D vwCl (tc_rW ad cA σ) H) (hS : va_S A s.heap H locs) (hl : lv_has ls 3 []) : W p l e (tc_R 1) s m args below meth c H locs 0 0 (MQ below (tc_Qi D (tc_rW ad cA q.2) A q.1) args s 0 0 A) (F0 m 56 ls [.int k0]) := by
  have C0 := C
  obtain ⟨hx, hb, hml, hown, ⟨hK, hN⟩, hr, hlk⟩ := C
  unfold m_XR_video_56 at h
  exact tc_rri C0 hP hS h dXR_video_56
def m_XR_video_73 (σ : tc_S) (k0 : Int32) : Option (Int32 × tc_S) := (some (k0, σ))
set_option maxHeartbeats 4000000 in
set_option maxRecDepth 100000 in
theorem w_XR_video_73 (C : tc_C p s m args meth c RXR cXR_video 3 (some .int) D cA) (hJ : ∀ σ, va_D A (tc_rW ad cA σ)) {q : Int32 × tc_S} {σ : tc_S} {k0 : Int32} {H : Heap} {locs : List Loc} {ls : Array Slot} (h : m_XR_video_73 σ k0 = some q) (hP : va_P D vwCl (tc_rW ad cA σ) H) (hS : va_S A s.heap H locs) (hl : lv_has ls 3 []) : W p l e (tc_R 1) s m args below meth c H locs 0 0 (MQ below (tc_Qi D (tc_rW ad cA q.2) A q.1) args s 0 0 A) (F0 m 73 ls [.int k0]) := by
  have C0 := C
  obtain ⟨hx, hb, hml, hown, ⟨hK, hN⟩, hr, hlk⟩ := C
  unfold m_XR_video_73 at h
  exact tc_rri C0 hP hS h dXR_video_73
def m_XR_video_89 (σ : tc_S) (k0 : Int32) : Option (Int32 × tc_S) := (some (k0, σ))
set_option maxHeartbeats 4000000 in
set_option maxRecDepth 100000 in
theorem w_XR_video_89 (C : tc_C p s m args meth c RXR cXR_video 3 (some .int) D cA) (hJ : ∀ σ, va_D A (tc_rW ad cA σ)) {q : Int32 × tc_S} {σ : tc_S} {k0 : Int32} {H : Heap} {locs : List Loc} {ls : Array Slot} (h : m_XR_video_89 σ k0 = some q) (hP : va_P D vwCl (tc_rW ad cA σ) H) (hS : va_S A s.heap H locs) (hl : lv_has ls 3 []) : W p l e (tc_R 1) s m args below meth c H locs 0 0 (MQ below (tc_Qi D (tc_rW ad cA q.2) A q.1) args s 0 0 A) (F0 m 89 ls [.int k0]) := by
  have C0 := C
  obtain ⟨hx, hb, hml, hown, ⟨hK, hN⟩, hr, hlk⟩ := C
  unfold m_XR_video_89 at h
  exact tc_rri C0 hP hS h dXR_video_89
def m_XR_video_106 (σ : tc_S) (k0 : Int32) : Option (Int32 × tc_S) := (some (k0, σ))
set_option maxHeartbeats 4000000 in
set_option maxRecDepth 100000 in
theorem w_XR_video_106 (C : tc_C p s m args meth c RXR cXR_video 3 (some .int) D cA) (hJ : ∀ σ, va_D A (tc_rW ad cA σ)) {q : Int32 × tc_S} {σ : tc_S} {k0 : Int32} {H : Heap} {locs : List Loc} {ls : Array Slot} (h : m_XR_video_106 σ k0 = some q) (hP : va_P D vwCl (tc_rW ad cA σ) H) (hS : va_S A s.heap H locs) (hl : lv_has ls 3 []) : W p l e (tc_R 1) s m args below meth c H locs 0 0 (MQ below (tc_Qi D (tc_rW ad cA q.2) A q.1) args s 0 0 A) (F0 m 106 ls [.int k0]) := by
  have C0 := C
  obtain ⟨hx, hb, hml, hown, ⟨hK, hN⟩, hr, hlk⟩ := C
  unfold m_XR_video_106 at h
  exact tc_rri C0 hP hS h dXR_video_106
def m_XR_video_185 (σ : tc_S) (k0 : Int32) : Option (Int32 × tc_S) := (some (k0, σ))
set_option maxHeartbeats 4000000 in
set_option maxRecDepth 100000 in
theorem w_XR_video_185 (C : tc_C p s m args meth c RXR cXR_video 3 (some .int) D cA) (hJ : ∀ σ, va_D A (tc_rW ad cA σ)) {q : Int32 × tc_S} {σ : tc_S} {k0 : Int32} {H : Heap} {locs : List Loc} {ls : Array Slot} (h : m_XR_video_185 σ k0 = some q) (hP : va_P D vwCl (tc_rW ad cA σ) H) (hS : va_S A s.heap H locs) (hl : lv_has ls 3 []) : W p l e (tc_R 1) s m args below meth c H locs 0 0 (MQ below (tc_Qi D (tc_rW ad cA q.2) A q.1) args s 0 0 A) (F0 m 185 ls [.int k0]) := by
  have C0 := C
  obtain ⟨hx, hb, hml, hown, ⟨hK, hN⟩, hr, hlk⟩ := C
  unfold m_XR_video_185 at h
  exact tc_rri C0 hP hS h dXR_video_185
def m_XR_video_180 (σ : tc_S) (k0 k1 : Int32) : Option (Int32 × tc_S) := (m_XR_video_185 σ (k1 + k0))
set_option maxHeartbeats 4000000 in
set_option maxRecDepth 100000 in
theorem w_XR_video_180 (C : tc_C p s m args meth c RXR cXR_video 3 (some .int) D cA) (hJ : ∀ σ, va_D A (tc_rW ad cA σ)) {q : Int32 × tc_S} {σ : tc_S} {k0 k1 : Int32} {H : Heap} {locs : List Loc} {ls : Array Slot} (h : m_XR_video_180 σ k0 k1 = some q) (hP : va_P D vwCl (tc_rW ad cA σ) H) (hS : va_S A s.heap H locs) (hl : lv_has ls 3 []) : W p l e (tc_R 1) s m args below meth c H locs 0 0 (MQ below (tc_Qi D (tc_rW ad cA q.2) A q.1) args s 0 0 A) (F0 m 180 ls [.int k0, .int k1]) := by
  have C0 := C
  obtain ⟨hx, hb, hml, hown, ⟨hK, hN⟩, hr, hlk⟩ := C
  unfold m_XR_video_180 at h
  refine lv_iadd hx hb dXR_video_180 ?_
  refine lv_goto (tgt := 185) hx hb dXR_video_181 (by decide) ?_
  exact w_XR_video_185 C0 hJ h hP hS (lv_sub hl [] rfl)
def m_XR_video_167 (σ : tc_S) (k0 : Int32) : Option (Int32 × tc_S) := (if (tc_gf σ 31) = 0 then (m_XR_video_180 σ 0 k0) else (m_XR_video_180 σ 6 k0))
set_option maxHeartbeats 4000000 in
set_option maxRecDepth 100000 in
theorem w_XR_video_167 (C : tc_C p s m args meth c RXR cXR_video 3 (some .int) D cA) (hJ : ∀ σ, va_D A (tc_rW ad cA σ)) {q : Int32 × tc_S} {σ : tc_S} {k0 : Int32} {H : Heap} {locs : List Loc} {ls : Array Slot} (h : m_XR_video_167 σ k0 = some q) (hP : va_P D vwCl (tc_rW ad cA σ) H) (hS : va_S A s.heap H locs) (hl : lv_has ls 3 [(0, .ref (ad 0))]) : W p l e (tc_R 1) s m args below meth c H locs 0 0 (MQ below (tc_Qi D (tc_rW ad cA q.2) A q.1) args s 0 0 A) (F0 m 167 ls [.int k0]) := by
  have C0 := C
  obtain ⟨hx, hb, hml, hown, ⟨hK, hN⟩, hr, hlk⟩ := C
  unfold m_XR_video_167 at h
  refine lv_aload_n hx hb dXR_video_167 rfl (lv_at hl 0 rfl) ?_
  refine tc_rg31 C0 hP (tc_use hN tw_635) dXR_video_168 ?_
  refine lv_if_eq (tgt := 179) hx hb dXR_video_171 (by decide) (fun hc => ?_) (fun hc => ?_)
  · have h := tc_ip hc h
    refine lv_iconst (v := 0) hx hb dXR_video_179 (by decide) ?_
    exact w_XR_video_180 C0 hJ h hP hS (lv_sub hl [] rfl)
  · have h := tc_in hc h
    refine lv_bipush (v := 6) hx hb dXR_video_174 (by decide) ?_
    refine lv_goto (tgt := 180) hx hb dXR_video_176 (by decide) ?_
    exact w_XR_video_180 C0 hJ h hP hS (lv_sub hl [] rfl)
def m_XR_video (σ : tc_S) (l1 l2 : Int32) : Option (Int32 × tc_S) := (if 0 ≤ l2 then (if l1 = 0 then (if 512 ≤ l2 then (m_XR_video_56 σ (-1)) else ((m_XR_vramWord σ l2).bind (fun q49 => (m_XR_video_56 q49.2 q49.1)))) else (if l1 = 1 then (if 16 ≤ l2 then (m_XR_video_73 σ (-1)) else (tc_gd l2 16 (m_XR_video_73 σ (tc_ga σ 3 l2)))) else (if l1 = 2 then (if 2 ≤ l2 then (m_XR_video_89 σ (-1)) else (tc_gd l2 2 (m_XR_video_89 σ (tc_ga σ 4 l2)))) else (if l1 = 3 then (if 16 ≤ l2 then (m_XR_video_106 σ (-1)) else (tc_gd l2 16 (m_XR_video_106 σ (tc_ga σ 5 l2)))) else (if l1 = 4 then (if l2 = 0 then (m_XR_video_185 σ (tc_gf σ 19)) else (if l2 = 1 then (m_XR_video_185 σ (tc_gf σ 20)) else (if l2 = 2 then (if (tc_gf σ 21) = 0 then (m_XR_video_185 σ 0) else (m_XR_video_185 σ 1)) else (if l2 = 3 then (if (tc_gf σ 30) = 0 then (m_XR_video_167 σ 0) else (m_XR_video_167 σ 4)) else (m_XR_video_185 σ (-1)))))) else (some ((-1), σ))))))) else (some ((-1), σ)))
set_option maxHeartbeats 4000000 in
set_option maxRecDepth 100000 in
theorem w_XR_video_0 (C : tc_C p s m args meth c RXR cXR_video 3 (some .int) D cA) (hJ : ∀ σ, va_D A (tc_rW ad cA σ)) {q : Int32 × tc_S} {σ : tc_S} {l1 l2 : Int32} {H : Heap} {locs : List Loc} {ls : Array Slot} (h : m_XR_video σ l1 l2 = some q) (hP : va_P D vwCl (tc_rW ad cA σ) H) (hS : va_S A s.heap H locs) (hl : lv_has ls 3 [(0, .ref (ad 0)), (1, .int l1), (2, .int l2)]) : W p l e (tc_R 1) s m args below meth c H locs 0 0 (MQ below (tc_Qi D (tc_rW ad cA q.2) A q.1) args s 0 0 A) (F0 m 0 ls []) := by
  have C0 := C
  obtain ⟨hx, hb, hml, hown, ⟨hK, hN⟩, hr, hlk⟩ := C
  unfold m_XR_video at h
  refine lv_iload_n hx hb dXR_video_0 rfl (lv_at hl 2 rfl) ?_
  refine lv_if_ge (tgt := 6) hx hb dXR_video_1 (by decide) (fun hc => ?_) (fun hc => ?_)
  · have h := tc_ip hc h
    refine lv_iload_n hx hb dXR_video_6 rfl (lv_at hl 1 rfl) ?_
    by_cases hc0 : l1 = 0
    · have h := tc_ip hc0 h
      refine lv_tableIn (off := 33) (tgt := 40) hx hb dXR_video_7 (by rw [hc0]; decide) (by rw [hc0]; decide) (by rw [hc0]; decide) (by decide) ?_
      refine lv_iload_n hx hb dXR_video_40 rfl (lv_at hl 2 rfl) ?_
      refine lv_sipush (v := 512) hx hb dXR_video_41 (by decide) ?_
      refine lv_icmp_ge (tgt := 55) hx hb dXR_video_44 (by decide) (fun hc => ?_) (fun hc => ?_)
      · have h := tc_ip hc h
        refine lv_iconst (v := (-1)) hx hb dXR_video_55 (by decide) ?_
        exact w_XR_video_56 C0 hJ h hP hS (lv_sub hl [] rfl)
      · have h := tc_in hc h
        refine lv_aload_n hx hb dXR_video_47 rfl (lv_at hl 0 rfl) ?_
        refine lv_iload_n hx hb dXR_video_48 rfl (lv_at hl 2 rfl) ?_
        obtain ⟨q49, e49, h⟩ := tc_bd_some h
        refine tc_cVi (As := [.int l2]) (rest := []) C0 (k_XR_vramWord hJ e49) tv_XR_135 (by decide) (by decide) hP hS hl 0 rfl rfl (Nat.le_of_ble_eq_true rfl) dXR_video_49 rfl (fun H locs hP hS => ?_)
        refine lv_goto (tgt := 56) hx hb dXR_video_52 (by decide) ?_
        exact w_XR_video_56 C0 hJ h hP hS (lv_sub hl [] rfl)
    have h := tc_in hc0 h
    by_cases hc1 : l1 = 1
    · have h := tc_ip hc1 h
      refine lv_tableIn (off := 50) (tgt := 57) hx hb dXR_video_7 (by rw [hc1]; decide) (by rw [hc1]; decide) (by rw [hc1]; decide) (by decide) ?_
      refine lv_iload_n hx hb dXR_video_57 rfl (lv_at hl 2 rfl) ?_
      refine lv_bipush (v := 16) hx hb dXR_video_58 (by decide) ?_
      refine lv_icmp_ge (tgt := 72) hx hb dXR_video_60 (by decide) (fun hc => ?_) (fun hc => ?_)
      · have h := tc_ip hc h
        refine lv_iconst (v := (-1)) hx hb dXR_video_72 (by decide) ?_
        exact w_XR_video_73 C0 hJ h hP hS (lv_sub hl [] rfl)
      · have h := tc_in hc h
        refine lv_aload_n hx hb dXR_video_63 rfl (lv_at hl 0 rfl) ?_
        refine tc_rr_XR_cram C0 hP (tc_use hN tw_651) dXR_video_64 ?_
        refine lv_iload_n hx hb dXR_video_67 rfl (lv_at hl 2 rfl) ?_
        obtain ⟨hi, h⟩ := tc_gd_some h
        refine tc_rld6 C0 hP hi dXR_video_68 ?_
        refine lv_goto (tgt := 73) hx hb dXR_video_69 (by decide) ?_
        exact w_XR_video_73 C0 hJ h hP hS (lv_sub hl [] rfl)
    have h := tc_in hc1 h
    by_cases hc2 : l1 = 2
    · have h := tc_ip hc2 h
      refine lv_tableIn (off := 67) (tgt := 74) hx hb dXR_video_7 (by rw [hc2]; decide) (by rw [hc2]; decide) (by rw [hc2]; decide) (by decide) ?_
      refine lv_iload_n hx hb dXR_video_74 rfl (lv_at hl 2 rfl) ?_
      refine lv_iconst (v := 2) hx hb dXR_video_75 (by decide) ?_
      refine lv_icmp_ge (tgt := 88) hx hb dXR_video_76 (by decide) (fun hc => ?_) (fun hc => ?_)
      · have h := tc_ip hc h
        refine lv_iconst (v := (-1)) hx hb dXR_video_88 (by decide) ?_
        exact w_XR_video_89 C0 hJ h hP hS (lv_sub hl [] rfl)
      · have h := tc_in hc h
        refine lv_aload_n hx hb dXR_video_79 rfl (lv_at hl 0 rfl) ?_
        refine tc_rr_XR_vsram C0 hP (tc_use hN tw_652) dXR_video_80 ?_
        refine lv_iload_n hx hb dXR_video_83 rfl (lv_at hl 2 rfl) ?_
        obtain ⟨hi, h⟩ := tc_gd_some h
        refine tc_rld7 C0 hP hi dXR_video_84 ?_
        refine lv_goto (tgt := 89) hx hb dXR_video_85 (by decide) ?_
        exact w_XR_video_89 C0 hJ h hP hS (lv_sub hl [] rfl)
    have h := tc_in hc2 h
    by_cases hc3 : l1 = 3
    · have h := tc_ip hc3 h
      refine lv_tableIn (off := 83) (tgt := 90) hx hb dXR_video_7 (by rw [hc3]; decide) (by rw [hc3]; decide) (by rw [hc3]; decide) (by decide) ?_
      refine lv_iload_n hx hb dXR_video_90 rfl (lv_at hl 2 rfl) ?_
      refine lv_bipush (v := 16) hx hb dXR_video_91 (by decide) ?_
      refine lv_icmp_ge (tgt := 105) hx hb dXR_video_93 (by decide) (fun hc => ?_) (fun hc => ?_)
      · have h := tc_ip hc h
        refine lv_iconst (v := (-1)) hx hb dXR_video_105 (by decide) ?_
        exact w_XR_video_106 C0 hJ h hP hS (lv_sub hl [] rfl)
      · have h := tc_in hc h
        refine lv_aload_n hx hb dXR_video_96 rfl (lv_at hl 0 rfl) ?_
        refine tc_rr_XR_regs C0 hP (tc_use hN tw_653) dXR_video_97 ?_
        refine lv_iload_n hx hb dXR_video_100 rfl (lv_at hl 2 rfl) ?_
        obtain ⟨hi, h⟩ := tc_gd_some h
        refine tc_rld8 C0 hP hi dXR_video_101 ?_
        refine lv_goto (tgt := 106) hx hb dXR_video_102 (by decide) ?_
        exact w_XR_video_106 C0 hJ h hP hS (lv_sub hl [] rfl)
    have h := tc_in hc3 h
    by_cases hc4 : l1 = 4
    · have h := tc_ip hc4 h
      refine lv_tableIn (off := 100) (tgt := 107) hx hb dXR_video_7 (by rw [hc4]; decide) (by rw [hc4]; decide) (by rw [hc4]; decide) (by decide) ?_
      refine lv_iload_n hx hb dXR_video_107 rfl (lv_at hl 2 rfl) ?_
      refine lv_if_ne (tgt := 118) hx hb dXR_video_108 (by decide) (fun hc => ?_) (fun hc => ?_)
      · have h := tc_in hc h
        refine lv_iload_n hx hb dXR_video_118 rfl (lv_at hl 2 rfl) ?_
        refine lv_iconst (v := 1) hx hb dXR_video_119 (by decide) ?_
        refine lv_icmp_ne (tgt := 130) hx hb dXR_video_120 (by decide) (fun hc => ?_) (fun hc => ?_)
        · have h := tc_in hc h
          refine lv_iload_n hx hb dXR_video_130 rfl (lv_at hl 2 rfl) ?_
          refine lv_iconst (v := 2) hx hb dXR_video_131 (by decide) ?_
          refine lv_icmp_ne (tgt := 150) hx hb dXR_video_132 (by decide) (fun hc => ?_) (fun hc => ?_)
          · have h := tc_in hc h
            refine lv_iload_n hx hb dXR_video_150 rfl (lv_at hl 2 rfl) ?_
            refine lv_iconst (v := 3) hx hb dXR_video_151 (by decide) ?_
            refine lv_icmp_ne (tgt := 184) hx hb dXR_video_152 (by decide) (fun hc => ?_) (fun hc => ?_)
            · have h := tc_in hc h
              refine lv_iconst (v := (-1)) hx hb dXR_video_184 (by decide) ?_
              exact w_XR_video_185 C0 hJ h hP hS (lv_sub hl [] rfl)
            · have h := tc_ip hc h
              refine lv_aload_n hx hb dXR_video_155 rfl (lv_at hl 0 rfl) ?_
              refine tc_rg30 C0 hP (tc_use hN tw_634) dXR_video_156 ?_
              refine lv_if_eq (tgt := 166) hx hb dXR_video_159 (by decide) (fun hc => ?_) (fun hc => ?_)
              · have h := tc_ip hc h
                refine lv_iconst (v := 0) hx hb dXR_video_166 (by decide) ?_
                exact w_XR_video_167 C0 hJ h hP hS (lv_sub hl [0] rfl)
              · have h := tc_in hc h
                refine lv_iconst (v := 4) hx hb dXR_video_162 (by decide) ?_
                refine lv_goto (tgt := 167) hx hb dXR_video_163 (by decide) ?_
                exact w_XR_video_167 C0 hJ h hP hS (lv_sub hl [0] rfl)
          · have h := tc_ip hc h
            refine lv_aload_n hx hb dXR_video_135 rfl (lv_at hl 0 rfl) ?_
            refine tc_rg21 C0 hP (tc_use hN tw_656) dXR_video_136 ?_
            refine lv_if_eq (tgt := 146) hx hb dXR_video_139 (by decide) (fun hc => ?_) (fun hc => ?_)
            · have h := tc_ip hc h
              refine lv_iconst (v := 0) hx hb dXR_video_146 (by decide) ?_
              refine lv_goto (tgt := 185) hx hb dXR_video_147 (by decide) ?_
              exact w_XR_video_185 C0 hJ h hP hS (lv_sub hl [] rfl)
            · have h := tc_in hc h
              refine lv_iconst (v := 1) hx hb dXR_video_142 (by decide) ?_
              refine lv_goto (tgt := 185) hx hb dXR_video_143 (by decide) ?_
              exact w_XR_video_185 C0 hJ h hP hS (lv_sub hl [] rfl)
        · have h := tc_ip hc h
          refine lv_aload_n hx hb dXR_video_123 rfl (lv_at hl 0 rfl) ?_
          refine tc_rg20 C0 hP (tc_use hN tw_655) dXR_video_124 ?_
          refine lv_goto (tgt := 185) hx hb dXR_video_127 (by decide) ?_
          exact w_XR_video_185 C0 hJ h hP hS (lv_sub hl [] rfl)
      · have h := tc_ip hc h
        refine lv_aload_n hx hb dXR_video_111 rfl (lv_at hl 0 rfl) ?_
        refine tc_rg19 C0 hP (tc_use hN tw_654) dXR_video_112 ?_
        refine lv_goto (tgt := 185) hx hb dXR_video_115 (by decide) ?_
        exact w_XR_video_185 C0 hJ h hP hS (lv_sub hl [] rfl)
    have h := tc_in hc4 h
    have hn0 := lv_neT (a := 0) hc0 (by decide)
    have hn1 := lv_neT (a := 1) hc1 (by decide)
    have hn2 := lv_neT (a := 2) hc2 (by decide)
    have hn3 := lv_neT (a := 3) hc3 (by decide)
    have hn4 := lv_neT (a := 4) hc4 (by decide)
    refine lv_tableOut (tgt := 186) hx hb dXR_video_7 (by omega) (by decide) ?_
    refine lv_iconst (v := (-1)) hx hb dXR_video_186 (by decide) ?_
    exact tc_rri C0 hP hS h dXR_video_187
  · have h := tc_in hc h
    refine lv_iconst (v := (-1)) hx hb dXR_video_4 (by decide) ?_
    exact tc_rri C0 hP hS h dXR_video_5
theorem k_XR_video (hJ : ∀ σ, va_D A (tc_rW ad cA σ)) {σ : tc_S} {l1 l2 : Int32} {q : Int32 × tc_S} (h : m_XR_video σ l1 l2 = some q) : Met l yXR_video [.code yXR_video cXR_video 3 (some .int)] (tc_R 1) (tc_Pc D cA (tc_rW ad cA σ) [.ref (ad 0), .int l1, .int l2]) (tc_Qi D (tc_rW ad cA q.2) A q.1) 0 0 A :=
  tc_met (by decide) (Nat.le_of_ble_eq_true rfl) (fun _ _ _ _ _ _ _ C hP _ hl => w_XR_video_0 C hJ h hP va_S.rf hl)
def m_XR_pixel_35 (σ : tc_S) (k0 : Int32) : Option (Int32 × tc_S) := (some (k0, σ))
set_option maxHeartbeats 4000000 in
set_option maxRecDepth 100000 in
theorem w_XR_pixel_35 (C : tc_C p s m args meth c RXR cXR_pixel 3 (some .int) D cA) (hJ : ∀ σ, va_D A (tc_rW ad cA σ)) {q : Int32 × tc_S} {σ : tc_S} {k0 : Int32} {H : Heap} {locs : List Loc} {ls : Array Slot} (h : m_XR_pixel_35 σ k0 = some q) (hP : va_P D vwCl (tc_rW ad cA σ) H) (hS : va_S A s.heap H locs) (hl : lv_has ls 3 []) : W p l e (tc_R 0) s m args below meth c H locs 0 0 (MQ below (tc_Qi D (tc_rW ad cA q.2) A q.1) args s 0 0 A) (F0 m 35 ls [.int k0]) := by
  have C0 := C
  obtain ⟨hx, hb, hml, hown, ⟨hK, hN⟩, hr, hlk⟩ := C
  unfold m_XR_pixel_35 at h
  exact tc_rri C0 hP hS h dXR_pixel_35
def m_XR_pixel_20 (σ : tc_S) : Option (Int32 × tc_S) := (m_XR_pixel_35 σ (-1))
set_option maxHeartbeats 4000000 in
set_option maxRecDepth 100000 in
theorem w_XR_pixel_20 (C : tc_C p s m args meth c RXR cXR_pixel 3 (some .int) D cA) (hJ : ∀ σ, va_D A (tc_rW ad cA σ)) {q : Int32 × tc_S} {σ : tc_S} {H : Heap} {locs : List Loc} {ls : Array Slot} (h : m_XR_pixel_20 σ = some q) (hP : va_P D vwCl (tc_rW ad cA σ) H) (hS : va_S A s.heap H locs) (hl : lv_has ls 3 []) : W p l e (tc_R 0) s m args below meth c H locs 0 0 (MQ below (tc_Qi D (tc_rW ad cA q.2) A q.1) args s 0 0 A) (F0 m 20 ls []) := by
  have C0 := C
  obtain ⟨hx, hb, hml, hown, ⟨hK, hN⟩, hr, hlk⟩ := C
  unfold m_XR_pixel_20 at h
  refine lv_iconst (v := (-1)) hx hb dXR_pixel_20 (by decide) ?_
  refine lv_goto (tgt := 35) hx hb dXR_pixel_21 (by decide) ?_
  exact w_XR_pixel_35 C0 hJ h hP hS (lv_sub hl [] rfl)
def m_XR_pixel (σ : tc_S) (l1 l2 : Int32) : Option (Int32 × tc_S) := (if l1 < 0 then (m_XR_pixel_20 σ) else (if 15 < l1 then (m_XR_pixel_20 σ) else (if l2 < 0 then (m_XR_pixel_20 σ) else (if l2 ≤ 7 then (tc_gd ((16 * l2) + l1) 128 (m_XR_pixel_35 σ (tc_ga σ 6 ((16 * l2) + l1)))) else (m_XR_pixel_20 σ)))))
set_option maxHeartbeats 4000000 in
set_option maxRecDepth 100000 in
theorem w_XR_pixel_0 (C : tc_C p s m args meth c RXR cXR_pixel 3 (some .int) D cA) (hJ : ∀ σ, va_D A (tc_rW ad cA σ)) {q : Int32 × tc_S} {σ : tc_S} {l1 l2 : Int32} {H : Heap} {locs : List Loc} {ls : Array Slot} (h : m_XR_pixel σ l1 l2 = some q) (hP : va_P D vwCl (tc_rW ad cA σ) H) (hS : va_S A s.heap H locs) (hl : lv_has ls 3 [(0, .ref (ad 0)), (1, .int l1), (2, .int l2)]) : W p l e (tc_R 0) s m args below meth c H locs 0 0 (MQ below (tc_Qi D (tc_rW ad cA q.2) A q.1) args s 0 0 A) (F0 m 0 ls []) := by
  have C0 := C
  obtain ⟨hx, hb, hml, hown, ⟨hK, hN⟩, hr, hlk⟩ := C
  unfold m_XR_pixel at h
  refine lv_iload_n hx hb dXR_pixel_0 rfl (lv_at hl 1 rfl) ?_
  refine lv_if_lt (tgt := 20) hx hb dXR_pixel_1 (by decide) (fun hc => ?_) (fun hc => ?_)
  · have h := tc_ip hc h
    exact w_XR_pixel_20 C0 hJ h hP hS (lv_sub hl [] rfl)
  · have h := tc_in hc h
    refine lv_iload_n hx hb dXR_pixel_4 rfl (lv_at hl 1 rfl) ?_
    refine lv_bipush (v := 15) hx hb dXR_pixel_5 (by decide) ?_
    refine lv_icmp_gt (tgt := 20) hx hb dXR_pixel_7 (by decide) (fun hc => ?_) (fun hc => ?_)
    · have h := tc_ip hc h
      exact w_XR_pixel_20 C0 hJ h hP hS (lv_sub hl [] rfl)
    · have h := tc_in hc h
      refine lv_iload_n hx hb dXR_pixel_10 rfl (lv_at hl 2 rfl) ?_
      refine lv_if_lt (tgt := 20) hx hb dXR_pixel_11 (by decide) (fun hc => ?_) (fun hc => ?_)
      · have h := tc_ip hc h
        exact w_XR_pixel_20 C0 hJ h hP hS (lv_sub hl [] rfl)
      · have h := tc_in hc h
        refine lv_iload_n hx hb dXR_pixel_14 rfl (lv_at hl 2 rfl) ?_
        refine lv_bipush (v := 7) hx hb dXR_pixel_15 (by decide) ?_
        refine lv_icmp_le (tgt := 24) hx hb dXR_pixel_17 (by decide) (fun hc => ?_) (fun hc => ?_)
        · have h := tc_ip hc h
          refine lv_aload_n hx hb dXR_pixel_24 rfl (lv_at hl 0 rfl) ?_
          refine tc_rr_XR_pixels C0 hP (tc_use hN tw_665) dXR_pixel_25 ?_
          refine lv_bipush (v := 16) hx hb dXR_pixel_28 (by decide) ?_
          refine lv_iload_n hx hb dXR_pixel_30 rfl (lv_at hl 2 rfl) ?_
          refine lv_imul hx hb dXR_pixel_31 ?_
          refine lv_iload_n hx hb dXR_pixel_32 rfl (lv_at hl 1 rfl) ?_
          refine lv_iadd hx hb dXR_pixel_33 ?_
          obtain ⟨hi, h⟩ := tc_gd_some h
          refine tc_rld9 C0 hP hi dXR_pixel_34 ?_
          exact w_XR_pixel_35 C0 hJ h hP hS (lv_sub hl [] rfl)
        · have h := tc_in hc h
          exact w_XR_pixel_20 C0 hJ h hP hS (lv_sub hl [] rfl)
theorem k_XR_pixel (hJ : ∀ σ, va_D A (tc_rW ad cA σ)) {σ : tc_S} {l1 l2 : Int32} {q : Int32 × tc_S} (h : m_XR_pixel σ l1 l2 = some q) : Met l yXR_pixel [.code yXR_pixel cXR_pixel 3 (some .int)] (tc_R 0) (tc_Pc D cA (tc_rW ad cA σ) [.ref (ad 0), .int l1, .int l2]) (tc_Qi D (tc_rW ad cA q.2) A q.1) 0 0 A :=
  tc_met (by decide) (Nat.le_of_ble_eq_true rfl) (fun _ _ _ _ _ _ _ C hP _ hl => w_XR_pixel_0 C hJ h hP va_S.rf hl)
end WALK_R_14
