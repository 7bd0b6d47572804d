section WALK_C_01
variable {p : Program} {l : Launch} {e : Env} {s : State} {m : MethodId} {args : Array Value} {below : List Frame} {meth : Method} {c : Code} {D : va_G} {cA : ClassId} {A : Nat → Prop} {ad : Nat → Nat}
def m_XP_fill_2 : Nat → tc_S → Int32 → Int32 → Int32 → Option (tc_S)
  | 0, _, _, _, _ => none
  | n + 1, σ, l1, l2, l3 => (if l2 ≤ l3 then ((m_XP_endMove σ).bind (fun q34 => (some q34))) else (tc_gd (((tc_gf σ 19) ^^^ 1) &&& 1023) 1024 ((m_XP_growAddress (tc_sa σ 2 (((tc_gf σ 19) ^^^ 1) &&& 1023) l1)).bind (fun q24 => (m_XP_fill_2 n q24 l1 l2 (l3 + 1))))))
set_option maxHeartbeats 4000000 in
set_option maxRecDepth 100000 in
theorem w_XP_fill_2 (C : tc_C p s m args meth c RXP cXP_fill 4 none D cA) (hJ : ∀ σ, va_D A (tc_cW ad cA σ)) {q : tc_S} : ∀ (n : Nat) {σ : tc_S} {l1 l2 l3 : Int32} {H : Heap} {locs : List Loc} {ls : Array Slot} (h : m_XP_fill_2 n σ l1 l2 l3 = some q) (hP : va_P D vwCl (tc_cW ad cA σ) H) (hS : va_S A s.heap H locs) (hl : lv_has ls 4 [(0, .ref (ad 3)), (1, .int l1), (2, .int l2), (3, .int l3)]), W p l e (tc_R 1) s m args below meth c H locs 0 0 (MQ below (tc_Qv D (tc_cW ad cA q) A) args s 0 0 A) (F0 m 2 ls []) := by
  have C0 := C
  obtain ⟨hx, hb, hml, hown, ⟨hK, hN⟩, hr, hlk⟩ := C
  intro n
  induction n with
  | zero =>
    intro σ l1 l2 l3 H locs ls h hP hS hl
    exact absurd h (by simp [m_XP_fill_2])
  | succ n ih =>
    intro σ l1 l2 l3 H locs ls h hP hS hl
    unfold m_XP_fill_2 at h
    refine lv_iload_n hx hb dXP_fill_2 rfl (lv_at hl 3 rfl) ?_
    refine lv_iload_n hx hb dXP_fill_3 rfl (lv_at hl 2 rfl) ?_
    refine lv_icmp_ge (tgt := 33) hx hb dXP_fill_4 (by decide) (fun hc => ?_) (fun hc => ?_)
    · have h := tc_ip hc h
      refine lv_aload_n hx hb dXP_fill_33 rfl (lv_at hl 0 rfl) ?_
      obtain ⟨q34, e34, h⟩ := tc_bd_some h
      refine tc_cVv (As := []) (rest := []) C0 (k_XP_endMove hJ e34) tv_XP_71 (by decide) (by decide) hP hS hl 3 rfl rfl (Nat.le_of_ble_eq_true rfl) dXP_fill_34 rfl (fun H locs hP hS => ?_)
      exact tc_crv C0 hP hS h dXP_fill_37
    · have h := tc_in hc h
      refine lv_aload_n hx hb dXP_fill_7 rfl (lv_at hl 0 rfl) ?_
      refine tc_cr_XP_vramBytes C0 hP (tc_use hN tw_77) dXP_fill_8 ?_
      refine lv_aload_n hx hb dXP_fill_11 rfl (lv_at hl 0 rfl) ?_
      refine tc_cg19 C0 hP (tc_use hN tw_87) dXP_fill_12 ?_
      refine lv_iconst (v := 1) hx hb dXP_fill_15 (by decide) ?_
      refine lv_ixor hx hb dXP_fill_16 ?_
      refine lv_sipush (v := 1023) hx hb dXP_fill_17 (by decide) ?_
      refine lv_iand hx hb dXP_fill_20 ?_
      refine lv_iload_n hx hb dXP_fill_21 rfl (lv_at hl 1 rfl) ?_
      obtain ⟨hi, h⟩ := tc_gd_some h
      refine tc_cst11 C0 hJ hP hS hi dXP_fill_22 (fun H locs hP hS => ?_)
      refine lv_aload_n hx hb dXP_fill_23 rfl (lv_at hl 0 rfl) ?_
      obtain ⟨q24, e24, h⟩ := tc_bd_some h
      refine tc_cVv (As := []) (rest := []) C0 (k_XP_growAddress hJ e24) tv_XP_67 (by decide) (by decide) hP hS hl 3 rfl rfl (Nat.le_of_ble_eq_true rfl) dXP_fill_24 rfl (fun H locs hP hS => ?_)
      refine lv_iinc (k := 3) (v := (l3 + 1)) (lv' := [(3, .int (l3 + 1)), (0, .ref (ad 3)), (1, .int l1), (2, .int l2)]) hx hb dXP_fill_27 hl rfl rfl (by decide) rfl (fun ls hl => ?_)
      refine lv_goto (tgt := 2) hx hb dXP_fill_30 (by decide) ?_
      exact ih h hP hS (lv_sub hl [1, 2, 3, 0] rfl)
def m_XP_fill (σ : tc_S) (l1 l2 : Int32) : Option (tc_S) := (m_XP_fill_2 2000 σ l1 l2 0)
set_option maxHeartbeats 4000000 in
set_option maxRecDepth 100000 in
theorem w_XP_fill_0 (C : tc_C p s m args meth c RXP cXP_fill 4 none D cA) (hJ : ∀ σ, va_D A (tc_cW ad cA σ)) {q : tc_S} {σ : tc_S} {l1 l2 : Int32} {H : Heap} {locs : List Loc} {ls : Array Slot} (h : m_XP_fill σ l1 l2 = some q) (hP : va_P D vwCl (tc_cW ad cA σ) H) (hS : va_S A s.heap H locs) (hl : lv_has ls 4 [(0, .ref (ad 3)), (1, .int l1), (2, .int l2)]) : W p l e (tc_R 1) s m args below meth c H locs 0 0 (MQ below (tc_Qv D (tc_cW ad cA q) A) args s 0 0 A) (F0 m 0 ls []) := by
  have C0 := C
  obtain ⟨hx, hb, hml, hown, ⟨hK, hN⟩, hr, hlk⟩ := C
  unfold m_XP_fill at h
  refine lv_iconst (v := 0) hx hb dXP_fill_0 (by decide) ?_
  refine lv_istore_n (lv' := [(3, .int 0), (0, .ref (ad 3)), (1, .int l1), (2, .int l2)]) hx hb dXP_fill_1 rfl hl (by decide) rfl (fun ls hl => ?_)
  exact w_XP_fill_2 C0 hJ _ h hP hS (lv_sub hl [1, 2, 3, 0] rfl)
theorem k_XP_fill (hJ : ∀ σ, va_D A (tc_cW ad cA σ)) {σ : tc_S} {l1 l2 : Int32} {q : tc_S} (h : m_XP_fill σ l1 l2 = some q) : Met l yXP_fill [.code yXP_fill cXP_fill 4 none] (tc_R 1) (tc_Pc D cA (tc_cW ad cA σ) [.ref (ad 3), .int l1, .int l2]) (tc_Qv D (tc_cW ad cA q) A) 0 0 A :=
  tc_met (by decide) (Nat.le_of_ble_eq_true rfl) (fun _ _ _ _ _ _ _ C hP _ hl => w_XP_fill_0 C hJ h hP va_S.rf hl)
def m_XP_writeData_34 (σ : tc_S) : Option (tc_S) := (some σ)
set_option maxHeartbeats 4000000 in
set_option maxRecDepth 100000 in
theorem w_XP_writeData_34 (C : tc_C p s m args meth c RXP cXP_writeData 2 none D cA) (hJ : ∀ σ, va_D A (tc_cW ad cA σ)) {q : tc_S} {σ : tc_S} {H : Heap} {locs : List Loc} {ls : Array Slot} (h : m_XP_writeData_34 σ = some q) (hP : va_P D vwCl (tc_cW ad cA σ) H) (hS : va_S A s.heap H locs) (hl : lv_has ls 2 []) : W p l e (tc_R 2) s m args below meth c H locs 0 0 (MQ below (tc_Qv D (tc_cW ad cA q) A) args s 0 0 A) (F0 m 34 ls []) := by
  have C0 := C
  obtain ⟨hx, hb, hml, hown, ⟨hK, hN⟩, hr, hlk⟩ := C
  unfold m_XP_writeData_34 at h
  exact tc_crv C0 hP hS h dXP_writeData_34
def m_XP_writeData (σ : tc_S) (l1 : Int32) : Option (tc_S) := ((m_XP_storeWord (tc_sf σ 21 0) l1).bind (fun q7 => (if (tc_gf q7 22) = 0 then (m_XP_writeData_34 q7) else ((m_XP_moveLength (tc_sf q7 22 0)).bind (fun q28 => ((m_XP_fill q28.2 (l1 >>> ((8 : Int32) &&& 31)) q28.1).bind (fun q31 => (m_XP_writeData_34 q31))))))))
set_option maxHeartbeats 4000000 in
set_option maxRecDepth 100000 in
theorem w_XP_writeData_0 (C : tc_C p s m args meth c RXP cXP_writeData 2 none D cA) (hJ : ∀ σ, va_D A (tc_cW ad cA σ)) {q : tc_S} {σ : tc_S} {l1 : Int32} {H : Heap} {locs : List Loc} {ls : Array Slot} (h : m_XP_writeData σ l1 = some q) (hP : va_P D vwCl (tc_cW ad cA σ) H) (hS : va_S A s.heap H locs) (hl : lv_has ls 2 [(0, .ref (ad 3)), (1, .int l1)]) : W p l e (tc_R 2) s m args below meth c H locs 0 0 (MQ below (tc_Qv D (tc_cW ad cA q) A) args s 0 0 A) (F0 m 0 ls []) := by
  have C0 := C
  obtain ⟨hx, hb, hml, hown, ⟨hK, hN⟩, hr, hlk⟩ := C
  unfold m_XP_writeData at h
  refine lv_aload_n hx hb dXP_writeData_0 rfl (lv_at hl 0 rfl) ?_
  refine lv_iconst (v := 0) hx hb dXP_writeData_1 (by decide) ?_
  refine tc_cp21 C0 hJ hP hS (tc_use hN tw_91) ⟨by decide, by decide⟩ dXP_writeData_2 (fun H locs hP hS => ?_)
  refine lv_aload_n hx hb dXP_writeData_5 rfl (lv_at hl 0 rfl) ?_
  refine lv_iload_n hx hb dXP_writeData_6 rfl (lv_at hl 1 rfl) ?_
  obtain ⟨q7, e7, h⟩ := tc_bd_some h
  refine tc_cVv (As := [.int l1]) (rest := []) C0 (k_XP_storeWord hJ e7) tv_XP_56 (by decide) (by decide) hP hS hl 3 rfl rfl (Nat.le_of_ble_eq_true rfl) dXP_writeData_7 rfl (fun H locs hP hS => ?_)
  refine lv_aload_n hx hb dXP_writeData_10 rfl (lv_at hl 0 rfl) ?_
  refine tc_cg22 C0 hP (tc_use hN tw_94) dXP_writeData_11 ?_
  refine lv_if_eq (tgt := 34) hx hb dXP_writeData_14 (by decide) (fun hc => ?_) (fun hc => ?_)
  · have h := tc_ip hc h
    exact w_XP_writeData_34 C0 hJ h hP hS (lv_sub hl [] rfl)
  · have h := tc_in hc h
    refine lv_aload_n hx hb dXP_writeData_17 rfl (lv_at hl 0 rfl) ?_
    refine lv_iconst (v := 0) hx hb dXP_writeData_18 (by decide) ?_
    refine tc_cp22 C0 hJ hP hS (tc_use hN tw_94) ⟨by decide, by decide⟩ dXP_writeData_19 (fun H locs hP hS => ?_)
    refine lv_aload_n hx hb dXP_writeData_22 rfl (lv_at hl 0 rfl) ?_
    refine lv_iload_n hx hb dXP_writeData_23 rfl (lv_at hl 1 rfl) ?_
    refine lv_bipush (v := 8) hx hb dXP_writeData_24 (by decide) ?_
    refine lv_ishr hx hb dXP_writeData_26 ?_
    refine lv_aload_n hx hb dXP_writeData_27 rfl (lv_at hl 0 rfl) ?_
    obtain ⟨q28, e28, h⟩ := tc_bd_some h
    refine tc_cVi (As := []) (rest := [.int (l1 >>> ((8 : Int32) &&& 31)), .ref (ad 3)]) C0 (k_XP_moveLength hJ e28) tv_XP_43 (by decide) (by decide) hP hS hl 3 rfl rfl (Nat.le_of_ble_eq_true rfl) dXP_writeData_28 rfl (fun H locs hP hS => ?_)
    obtain ⟨q31, e31, h⟩ := tc_bd_some h
    refine tc_cVv (As := [.int (l1 >>> ((8 : Int32) &&& 31)), .int q28.1]) (rest := []) C0 (k_XP_fill hJ e31) tv_XP_59 (by decide) (by decide) hP hS hl 3 rfl rfl (Nat.le_of_ble_eq_true rfl) dXP_writeData_31 rfl (fun H locs hP hS => ?_)
    exact w_XP_writeData_34 C0 hJ h hP hS (lv_sub hl [] rfl)
theorem k_XP_writeData (hJ : ∀ σ, va_D A (tc_cW ad cA σ)) {σ : tc_S} {l1 : Int32} {q : tc_S} (h : m_XP_writeData σ l1 = some q) : Met l yXP_writeData [.code yXP_writeData cXP_writeData 2 none] (tc_R 2) (tc_Pc D cA (tc_cW ad cA σ) [.ref (ad 3), .int l1]) (tc_Qv D (tc_cW ad cA q) A) 0 0 A :=
  tc_met (by decide) (Nat.le_of_ble_eq_true rfl) (fun _ _ _ _ _ _ _ C hP _ hl => w_XP_writeData_0 C hJ h hP va_S.rf hl)
def m_XP_halfSource (σ : tc_S) : Option (Int32 × tc_S) := (tc_gd 10 16 (tc_gd 9 16 (some (((((tc_ga σ 5 10) &&& 127) * 256) + (tc_ga σ 5 9)), σ))))
set_option maxHeartbeats 4000000 in
set_option maxRecDepth 100000 in
theorem w_XP_halfSource_0 (C : tc_C p s m args meth c RXP cXP_halfSource 1 (some .int) D cA) (hJ : ∀ σ, va_D A (tc_cW ad cA σ)) {q : Int32 × tc_S} {σ : tc_S} {H : Heap} {locs : List Loc} {ls : Array Slot} (h : m_XP_halfSource σ = some q) (hP : va_P D vwCl (tc_cW ad cA σ) H) (hS : va_S A s.heap H locs) (hl : lv_has ls 1 [(0, .ref (ad 3))]) : W p l e (tc_R 0) s m args below meth c H locs 0 0 (MQ below (tc_Qi D (tc_cW ad cA q.2) A q.1) args s 0 0 A) (F0 m 0 ls []) := by
  have C0 := C
  obtain ⟨hx, hb, hml, hown, ⟨hK, hN⟩, hr, hlk⟩ := C
  unfold m_XP_halfSource at h
  refine lv_aload_n hx hb dXP_halfSource_0 rfl (lv_at hl 0 rfl) ?_
  refine tc_cr_XP_registers C0 hP (tc_use hN tw_84) dXP_halfSource_1 ?_
  refine lv_bipush (v := 10) hx hb dXP_halfSource_4 (by decide) ?_
  obtain ⟨hi, h⟩ := tc_gd_some h
  refine tc_cld14 C0 hP hi dXP_halfSource_6 ?_
  refine lv_bipush (v := 127) hx hb dXP_halfSource_7 (by decide) ?_
  refine lv_iand hx hb dXP_halfSource_9 ?_
  refine lv_sipush (v := 256) hx hb dXP_halfSource_10 (by decide) ?_
  refine lv_imul hx hb dXP_halfSource_13 ?_
  refine lv_aload_n hx hb dXP_halfSource_14 rfl (lv_at hl 0 rfl) ?_
  refine tc_cr_XP_registers C0 hP (tc_use hN tw_84) dXP_halfSource_15 ?_
  refine lv_bipush (v := 9) hx hb dXP_halfSource_18 (by decide) ?_
  obtain ⟨hi, h⟩ := tc_gd_some h
  refine tc_cld14 C0 hP hi dXP_halfSource_20 ?_
  refine lv_iadd hx hb dXP_halfSource_21 ?_
  exact tc_cri C0 hP hS h dXP_halfSource_22
theorem k_XP_halfSource (hJ : ∀ σ, va_D A (tc_cW ad cA σ)) {σ : tc_S} {q : Int32 × tc_S} (h : m_XP_halfSource σ = some q) : Met l yXP_halfSource [.code yXP_halfSource cXP_halfSource 1 (some .int)] (tc_R 0) (tc_Pc D cA (tc_cW ad cA σ) [.ref (ad 3)]) (tc_Qi D (tc_cW ad cA q.2) A q.1) 0 0 A :=
  tc_met (by decide) (Nat.le_of_ble_eq_true rfl) (fun _ _ _ _ _ _ _ C hP _ hl => w_XP_halfSource_0 C hJ h hP va_S.rf hl)
def m_XP_copy_7 : Nat → tc_S → Int32 → Int32 → Int32 → Option (tc_S)
  | 0, _, _, _, _ => none
  | n + 1, σ, l1, l2, l3 => (if l1 ≤ l3 then ((m_XP_endMove σ).bind (fun q48 => (some q48))) else (tc_gd ((l2 + l3) &&& 1023) 1024 (tc_gd ((tc_gf σ 19) &&& 1023) 1024 ((m_XP_growAddress (tc_sa σ 2 ((tc_gf σ 19) &&& 1023) (tc_ga σ 2 ((l2 + l3) &&& 1023)))).bind (fun q38 => (m_XP_copy_7 n q38 l1 l2 (l3 + 1)))))))
set_option maxHeartbeats 4000000 in
set_option maxRecDepth 100000 in
theorem w_XP_copy_7 (C : tc_C p s m args meth c RXP cXP_copy 4 none D cA) (hJ : ∀ σ, va_D A (tc_cW ad cA σ)) {q : tc_S} : ∀ (n : Nat) {σ : tc_S} {l1 l2 l3 : Int32} {H : Heap} {locs : List Loc} {ls : Array Slot} (h : m_XP_copy_7 n σ l1 l2 l3 = some q) (hP : va_P D vwCl (tc_cW ad cA σ) H) (hS : va_S A s.heap H locs) (hl : lv_has ls 4 [(0, .ref (ad 3)), (1, .int l1), (2, .int l2), (3, .int l3)]), W p l e (tc_R 1) s m args below meth c H locs 0 0 (MQ below (tc_Qv D (tc_cW ad cA q) A) args s 0 0 A) (F0 m 7 ls []) := by
  have C0 := C
  obtain ⟨hx, hb, hml, hown, ⟨hK, hN⟩, hr, hlk⟩ := C
  intro n
  induction n with
  | zero =>
    intro σ l1 l2 l3 H locs ls h hP hS hl
    exact absurd h (by simp [m_XP_copy_7])
  | succ n ih =>
    intro σ l1 l2 l3 H locs ls h hP hS hl
    unfold m_XP_copy_7 at h
    refine lv_iload_n hx hb dXP_copy_7 rfl (lv_at hl 3 rfl) ?_
    refine lv_iload_n hx hb dXP_copy_8 rfl (lv_at hl 1 rfl) ?_
    refine lv_icmp_ge (tgt := 47) hx hb dXP_copy_9 (by decide) (fun hc => ?_) (fun hc => ?_)
    · have h := tc_ip hc h
      refine lv_aload_n hx hb dXP_copy_47 rfl (lv_at hl 0 rfl) ?_
      obtain ⟨q48, e48, h⟩ := tc_bd_some h
      refine tc_cVv (As := []) (rest := []) C0 (k_XP_endMove hJ e48) tv_XP_71 (by decide) (by decide) hP hS hl 3 rfl rfl (Nat.le_of_ble_eq_true rfl) dXP_copy_48 rfl (fun H locs hP hS => ?_)
      exact tc_crv C0 hP hS h dXP_copy_51
    · have h := tc_in hc h
      refine lv_aload_n hx hb dXP_copy_12 rfl (lv_at hl 0 rfl) ?_
      refine tc_cr_XP_vramBytes C0 hP (tc_use hN tw_77) dXP_copy_13 ?_
      refine lv_aload_n hx hb dXP_copy_16 rfl (lv_at hl 0 rfl) ?_
      refine tc_cg19 C0 hP (tc_use hN tw_87) dXP_copy_17 ?_
      refine lv_sipush (v := 1023) hx hb dXP_copy_20 (by decide) ?_
      refine lv_iand hx hb dXP_copy_23 ?_
      refine lv_aload_n hx hb dXP_copy_24 rfl (lv_at hl 0 rfl) ?_
      refine tc_cr_XP_vramBytes C0 hP (tc_use hN tw_77) dXP_copy_25 ?_
      refine lv_iload_n hx hb dXP_copy_28 rfl (lv_at hl 2 rfl) ?_
      refine lv_iload_n hx hb dXP_copy_29 rfl (lv_at hl 3 rfl) ?_
      refine lv_iadd hx hb dXP_copy_30 ?_
      refine lv_sipush (v := 1023) hx hb dXP_copy_31 (by decide) ?_
      refine lv_iand hx hb dXP_copy_34 ?_
      obtain ⟨hi, h⟩ := tc_gd_some h
      refine tc_cld11 C0 hP hi dXP_copy_35 ?_
      obtain ⟨hi, h⟩ := tc_gd_some h
      refine tc_cst11 C0 hJ hP hS hi dXP_copy_36 (fun H locs hP hS => ?_)
      refine lv_aload_n hx hb dXP_copy_37 rfl (lv_at hl 0 rfl) ?_
      obtain ⟨q38, e38, h⟩ := tc_bd_some h
      refine tc_cVv (As := []) (rest := []) C0 (k_XP_growAddress hJ e38) tv_XP_67 (by decide) (by decide) hP hS hl 3 rfl rfl (Nat.le_of_ble_eq_true rfl) dXP_copy_38 rfl (fun H locs hP hS => ?_)
      refine lv_iinc (k := 3) (v := (l3 + 1)) (lv' := [(3, .int (l3 + 1)), (0, .ref (ad 3)), (1, .int l1), (2, .int l2)]) hx hb dXP_copy_41 hl rfl rfl (by decide) rfl (fun ls hl => ?_)
      refine lv_goto (tgt := 7) hx hb dXP_copy_44 (by decide) ?_
      exact ih h hP hS (lv_sub hl [1, 2, 3, 0] rfl)
def m_XP_copy (σ : tc_S) (l1 : Int32) : Option (tc_S) := ((m_XP_halfSource σ).bind (fun q1 => (m_XP_copy_7 2000 q1.2 l1 q1.1 0)))
set_option maxHeartbeats 4000000 in
set_option maxRecDepth 100000 in
theorem w_XP_copy_0 (C : tc_C p s m args meth c RXP cXP_copy 4 none D cA) (hJ : ∀ σ, va_D A (tc_cW ad cA σ)) {q : tc_S} {σ : tc_S} {l1 : Int32} {H : Heap} {locs : List Loc} {ls : Array Slot} (h : m_XP_copy σ l1 = some q) (hP : va_P D vwCl (tc_cW ad cA σ) H) (hS : va_S A s.heap H locs) (hl : lv_has ls 4 [(0, .ref (ad 3)), (1, .int l1)]) : W p l e (tc_R 1) s m args below meth c H locs 0 0 (MQ below (tc_Qv D (tc_cW ad cA q) A) args s 0 0 A) (F0 m 0 ls []) := by
  have C0 := C
  obtain ⟨hx, hb, hml, hown, ⟨hK, hN⟩, hr, hlk⟩ := C
  unfold m_XP_copy at h
  refine lv_aload_n hx hb dXP_copy_0 rfl (lv_at hl 0 rfl) ?_
  obtain ⟨q1, e1, h⟩ := tc_bd_some h
  refine tc_cVi (As := []) (rest := []) C0 (k_XP_halfSource hJ e1) tv_XP_50 (by decide) (by decide) hP hS hl 3 rfl rfl (Nat.le_of_ble_eq_true rfl) dXP_copy_1 rfl (fun H locs hP hS => ?_)
  refine lv_istore_n (lv' := [(2, .int q1.1), (0, .ref (ad 3)), (1, .int l1)]) hx hb dXP_copy_4 rfl hl (by decide) rfl (fun ls hl => ?_)
  refine lv_iconst (v := 0) hx hb dXP_copy_5 (by decide) ?_
  refine lv_istore_n (lv' := [(3, .int 0), (2, .int q1.1), (0, .ref (ad 3)), (1, .int l1)]) hx hb dXP_copy_6 rfl hl (by decide) rfl (fun ls hl => ?_)
  exact w_XP_copy_7 C0 hJ _ h hP hS (lv_sub hl [2, 3, 1, 0] rfl)
theorem k_XP_copy (hJ : ∀ σ, va_D A (tc_cW ad cA σ)) {σ : tc_S} {l1 : Int32} {q : tc_S} (h : m_XP_copy σ l1 = some q) : Met l yXP_copy [.code yXP_copy cXP_copy 4 none] (tc_R 1) (tc_Pc D cA (tc_cW ad cA σ) [.ref (ad 3), .int l1]) (tc_Qv D (tc_cW ad cA q) A) 0 0 A :=
  tc_met (by decide) (Nat.le_of_ble_eq_true rfl) (fun _ _ _ _ _ _ _ C hP _ hl => w_XP_copy_0 C hJ h hP va_S.rf hl)
def m_XP_takeFirstWord (σ : tc_S) (l1 : Int32) : Option (tc_S) := (if (l1 >>> ((14 : Int32) &&& 31)) = 2 then (tc_gd ((l1 >>> ((8 : Int32) &&& 31)) &&& 15) 16 (some (tc_sf (tc_sa σ 5 ((l1 >>> ((8 : Int32) &&& 31)) &&& 15) (l1 &&& 255)) 20 ((tc_gf (tc_sa σ 5 ((l1 >>> ((8 : Int32) &&& 31)) &&& 15) (l1 &&& 255)) 20) &&& 60)))) else (some (tc_sf (tc_sf (tc_sf σ 19 (((tc_gf σ 19) &&& 49152) ||| (l1 &&& 16383))) 20 (((tc_gf (tc_sf σ 19 (((tc_gf σ 19) &&& 49152) ||| (l1 &&& 16383))) 20) &&& 60) ||| (l1 >>> ((14 : Int32) &&& 31)))) 21 1)))
set_option maxHeartbeats 4000000 in
set_option maxRecDepth 100000 in
theorem w_XP_takeFirstWord_0 (C : tc_C p s m args meth c RXP cXP_takeFirstWord 2 none D cA) (hJ : ∀ σ, va_D A (tc_cW ad cA σ)) {q : tc_S} {σ : tc_S} {l1 : Int32} {H : Heap} {locs : List Loc} {ls : Array Slot} (h : m_XP_takeFirstWord σ l1 = some q) (hP : va_P D vwCl (tc_cW ad cA σ) H) (hS : va_S A s.heap H locs) (hl : lv_has ls 2 [(0, .ref (ad 3)), (1, .int l1)]) : W p l e (tc_R 0) s m args below meth c H locs 0 0 (MQ below (tc_Qv D (tc_cW ad cA q) A) args s 0 0 A) (F0 m 0 ls []) := by
  have C0 := C
  obtain ⟨hx, hb, hml, hown, ⟨hK, hN⟩, hr, hlk⟩ := C
  unfold m_XP_takeFirstWord at h
  refine lv_iload_n hx hb dXP_takeFirstWord_0 rfl (lv_at hl 1 rfl) ?_
  refine lv_bipush (v := 14) hx hb dXP_takeFirstWord_1 (by decide) ?_
  refine lv_ishr hx hb dXP_takeFirstWord_3 ?_
  refine lv_iconst (v := 2) hx hb dXP_takeFirstWord_4 (by decide) ?_
  refine lv_icmp_ne (tgt := 37) hx hb dXP_takeFirstWord_5 (by decide) (fun hc => ?_) (fun hc => ?_)
  · have h := tc_in hc h
    refine lv_aload_n hx hb dXP_takeFirstWord_37 rfl (lv_at hl 0 rfl) ?_
    refine lv_aload_n hx hb dXP_takeFirstWord_38 rfl (lv_at hl 0 rfl) ?_
    refine tc_cg19 C0 hP (tc_use hN tw_87) dXP_takeFirstWord_39 ?_
    refine lv_ldc (v := 49152) hx hb hown (tc_use hN tw_397) dXP_takeFirstWord_42 ?_
    refine lv_iand hx hb dXP_takeFirstWord_44 ?_
    refine lv_iload_n hx hb dXP_takeFirstWord_45 rfl (lv_at hl 1 rfl) ?_
    refine lv_sipush (v := 16383) hx hb dXP_takeFirstWord_46 (by decide) ?_
    refine lv_iand hx hb dXP_takeFirstWord_49 ?_
    refine lv_ior hx hb dXP_takeFirstWord_50 ?_
    refine tc_cp19 C0 hJ hP hS (tc_use hN tw_87) dXP_takeFirstWord_51 (fun H locs hP hS => ?_)
    refine lv_aload_n hx hb dXP_takeFirstWord_54 rfl (lv_at hl 0 rfl) ?_
    refine lv_aload_n hx hb dXP_takeFirstWord_55 rfl (lv_at hl 0 rfl) ?_
    refine tc_cg20 C0 hP (tc_use hN tw_89) dXP_takeFirstWord_56 ?_
    refine lv_bipush (v := 60) hx hb dXP_takeFirstWord_59 (by decide) ?_
    refine lv_iand hx hb dXP_takeFirstWord_61 ?_
    refine lv_iload_n hx hb dXP_takeFirstWord_62 rfl (lv_at hl 1 rfl) ?_
    refine lv_bipush (v := 14) hx hb dXP_takeFirstWord_63 (by decide) ?_
    refine lv_ishr hx hb dXP_takeFirstWord_65 ?_
    refine lv_ior hx hb dXP_takeFirstWord_66 ?_
    refine tc_cp20 C0 hJ hP hS (tc_use hN tw_89) dXP_takeFirstWord_67 (fun H locs hP hS => ?_)
    refine lv_aload_n hx hb dXP_takeFirstWord_70 rfl (lv_at hl 0 rfl) ?_
    refine lv_iconst (v := 1) hx hb dXP_takeFirstWord_71 (by decide) ?_
    refine tc_cp21 C0 hJ hP hS (tc_use hN tw_91) ⟨by decide, by decide⟩ dXP_takeFirstWord_72 (fun H locs hP hS => ?_)
    exact tc_crv C0 hP hS h dXP_takeFirstWord_75
  · have h := tc_ip hc h
    refine lv_aload_n hx hb dXP_takeFirstWord_8 rfl (lv_at hl 0 rfl) ?_
    refine tc_cr_XP_registers C0 hP (tc_use hN tw_84) dXP_takeFirstWord_9 ?_
    refine lv_iload_n hx hb dXP_takeFirstWord_12 rfl (lv_at hl 1 rfl) ?_
    refine lv_bipush (v := 8) hx hb dXP_takeFirstWord_13 (by decide) ?_
    refine lv_ishr hx hb dXP_takeFirstWord_15 ?_
    refine lv_bipush (v := 15) hx hb dXP_takeFirstWord_16 (by decide) ?_
    refine lv_iand hx hb dXP_takeFirstWord_18 ?_
    refine lv_iload_n hx hb dXP_takeFirstWord_19 rfl (lv_at hl 1 rfl) ?_
    refine lv_sipush (v := 255) hx hb dXP_takeFirstWord_20 (by decide) ?_
    refine lv_iand hx hb dXP_takeFirstWord_23 ?_
    obtain ⟨hi, h⟩ := tc_gd_some h
    refine tc_cst14 C0 hJ hP hS hi dXP_takeFirstWord_24 (fun H locs hP hS => ?_)
    refine lv_aload_n hx hb dXP_takeFirstWord_25 rfl (lv_at hl 0 rfl) ?_
    refine lv_aload_n hx hb dXP_takeFirstWord_26 rfl (lv_at hl 0 rfl) ?_
    refine tc_cg20 C0 hP (tc_use hN tw_89) dXP_takeFirstWord_27 ?_
    refine lv_bipush (v := 60) hx hb dXP_takeFirstWord_30 (by decide) ?_
    refine lv_iand hx hb dXP_takeFirstWord_32 ?_
    refine tc_cp20 C0 hJ hP hS (tc_use hN tw_89) dXP_takeFirstWord_33 (fun H locs hP hS => ?_)
    exact tc_crv C0 hP hS h dXP_takeFirstWord_36
theorem k_XP_takeFirstWord (hJ : ∀ σ, va_D A (tc_cW ad cA σ)) {σ : tc_S} {l1 : Int32} {q : tc_S} (h : m_XP_takeFirstWord σ l1 = some q) : Met l yXP_takeFirstWord [.code yXP_takeFirstWord cXP_takeFirstWord 2 none] (tc_R 0) (tc_Pc D cA (tc_cW ad cA σ) [.ref (ad 3), .int l1]) (tc_Qv D (tc_cW ad cA q) A) 0 0 A :=
  tc_met (by decide) (Nat.le_of_ble_eq_true rfl) (fun _ _ _ _ _ _ _ C hP _ hl => w_XP_takeFirstWord_0 C hJ h hP va_S.rf hl)
def m_XP_writeControl_78 (σ : tc_S) : Option (tc_S) := (some σ)
set_option maxHeartbeats 4000000 in
set_option maxRecDepth 100000 in
theorem w_XP_writeControl_78 (C : tc_C p s m args meth c RXP cXP_writeControl 2 none D cA) (hJ : ∀ σ, va_D A (tc_cW ad cA σ)) {q : tc_S} {σ : tc_S} {H : Heap} {locs : List Loc} {ls : Array Slot} (h : m_XP_writeControl_78 σ = some q) (hP : va_P D vwCl (tc_cW ad cA σ) H) (hS : va_S A s.heap H locs) (hl : lv_has ls 2 []) : W p l e (tc_R 2) s m args below meth c H locs 0 0 (MQ below (tc_Qv D (tc_cW ad cA q) A) args s 0 0 A) (F0 m 78 ls []) := by
  have C0 := C
  obtain ⟨hx, hb, hml, hown, ⟨hK, hN⟩, hr, hlk⟩ := C
  unfold m_XP_writeControl_78 at h
  exact tc_crv C0 hP hS h dXP_writeControl_78
def m_XP_writeControl_153 (σ : tc_S) : Option (tc_S) := (some σ)
set_option maxHeartbeats 4000000 in
set_option maxRecDepth 100000 in
theorem w_XP_writeControl_153 (C : tc_C p s m args meth c RXP cXP_writeControl 2 none D cA) (hJ : ∀ σ, va_D A (tc_cW ad cA σ)) {q : tc_S} {σ : tc_S} {H : Heap} {locs : List Loc} {ls : Array Slot} (h : m_XP_writeControl_153 σ = some q) (hP : va_P D vwCl (tc_cW ad cA σ) H) (hS : va_S A s.heap H locs) (hl : lv_has ls 2 []) : W p l e (tc_R 2) s m args below meth c H locs 0 0 (MQ below (tc_Qv D (tc_cW ad cA q) A) args s 0 0 A) (F0 m 153 ls []) := by
  have C0 := C
  obtain ⟨hx, hb, hml, hown, ⟨hK, hN⟩, hr, hlk⟩ := C
  unfold m_XP_writeControl_153 at h
  exact tc_crv C0 hP hS h dXP_writeControl_153
def m_XP_writeControl (σ : tc_S) (l1 : Int32) : Option (tc_S) := (if (tc_gf σ 21) = 0 then ((m_XP_takeFirstWord σ l1).bind (fun q9 => (some q9))) else (if ((tc_gf (tc_sf (tc_sf (tc_sf σ 21 0) 19 (((tc_gf (tc_sf σ 21 0) 19) &&& 16383) ||| ((l1 &&& 3) <<< ((14 : Int32) &&& 31)))) 20 (((tc_gf (tc_sf (tc_sf σ 21 0) 19 (((tc_gf (tc_sf σ 21 0) 19) &&& 16383) ||| ((l1 &&& 3) <<< ((14 : Int32) &&& 31)))) 20) &&& 3) ||| (((l1 >>> ((4 : Int32) &&& 31)) &&& 15) <<< ((2 : Int32) &&& 31)))) 20) &&& 32) = 0 then (m_XP_writeControl_78 (tc_sf (tc_sf (tc_sf σ 21 0) 19 (((tc_gf (tc_sf σ 21 0) 19) &&& 16383) ||| ((l1 &&& 3) <<< ((14 : Int32) &&& 31)))) 20 (((tc_gf (tc_sf (tc_sf σ 21 0) 19 (((tc_gf (tc_sf σ 21 0) 19) &&& 16383) ||| ((l1 &&& 3) <<< ((14 : Int32) &&& 31)))) 20) &&& 3) ||| (((l1 >>> ((4 : Int32) &&& 31)) &&& 15) <<< ((2 : Int32) &&& 31))))) else (tc_gd 1 16 (if ((tc_ga (tc_sf (tc_sf (tc_sf σ 21 0) 19 (((tc_gf (tc_sf σ 21 0) 19) &&& 16383) ||| ((l1 &&& 3) <<< ((14 : Int32) &&& 31)))) 20 (((tc_gf (tc_sf (tc_sf σ 21 0) 19 (((tc_gf (tc_sf σ 21 0) 19) &&& 16383) ||| ((l1 &&& 3) <<< ((14 : Int32) &&& 31)))) 20) &&& 3) ||| (((l1 >>> ((4 : Int32) &&& 31)) &&& 15) <<< ((2 : Int32) &&& 31)))) 5 1) &&& 16) = 0 then (m_XP_writeControl_78 (tc_sf (tc_sf (tc_sf σ 21 0) 19 (((tc_gf (tc_sf σ 21 0) 19) &&& 16383) ||| ((l1 &&& 3) <<< ((14 : Int32) &&& 31)))) 20 (((tc_gf (tc_sf (tc_sf σ 21 0) 19 (((tc_gf (tc_sf σ 21 0) 19) &&& 16383) ||| ((l1 &&& 3) <<< ((14 : Int32) &&& 31)))) 20) &&& 3) ||| (((l1 >>> ((4 : Int32) &&& 31)) &&& 15) <<< ((2 : Int32) &&& 31))))) else (tc_gd 15 16 (if ((tc_ga (tc_sf (tc_sf (tc_sf σ 21 0) 19 (((tc_gf (tc_sf σ 21 0) 19) &&& 16383) ||| ((l1 &&& 3) <<< ((14 : Int32) &&& 31)))) 20 (((tc_gf (tc_sf (tc_sf σ 21 0) 19 (((tc_gf (tc_sf σ 21 0) 19) &&& 16383) ||| ((l1 &&& 3) <<< ((14 : Int32) &&& 31)))) 20) &&& 3) ||| (((l1 >>> ((4 : Int32) &&& 31)) &&& 15) <<< ((2 : Int32) &&& 31)))) 5 15) >>> ((6 : Int32) &&& 31)) = 2 then (m_XP_writeControl_153 (tc_sf (tc_sf (tc_sf (tc_sf σ 21 0) 19 (((tc_gf (tc_sf σ 21 0) 19) &&& 16383) ||| ((l1 &&& 3) <<< ((14 : Int32) &&& 31)))) 20 (((tc_gf (tc_sf (tc_sf σ 21 0) 19 (((tc_gf (tc_sf σ 21 0) 19) &&& 16383) ||| ((l1 &&& 3) <<< ((14 : Int32) &&& 31)))) 20) &&& 3) ||| (((l1 >>> ((4 : Int32) &&& 31)) &&& 15) <<< ((2 : Int32) &&& 31)))) 22 1)) else (if ((tc_ga (tc_sf (tc_sf (tc_sf σ 21 0) 19 (((tc_gf (tc_sf σ 21 0) 19) &&& 16383) ||| ((l1 &&& 3) <<< ((14 : Int32) &&& 31)))) 20 (((tc_gf (tc_sf (tc_sf σ 21 0) 19 (((tc_gf (tc_sf σ 21 0) 19) &&& 16383) ||| ((l1 &&& 3) <<< ((14 : Int32) &&& 31)))) 20) &&& 3) ||| (((l1 >>> ((4 : Int32) &&& 31)) &&& 15) <<< ((2 : Int32) &&& 31)))) 5 15) >>> ((6 : Int32) &&& 31)) = 3 then ((m_XP_moveLength (tc_sf (tc_sf (tc_sf σ 21 0) 19 (((tc_gf (tc_sf σ 21 0) 19) &&& 16383) ||| ((l1 &&& 3) <<< ((14 : Int32) &&& 31)))) 20 (((tc_gf (tc_sf (tc_sf σ 21 0) 19 (((tc_gf (tc_sf σ 21 0) 19) &&& 16383) ||| ((l1 &&& 3) <<< ((14 : Int32) &&& 31)))) 20) &&& 3) ||| (((l1 >>> ((4 : Int32) &&& 31)) &&& 15) <<< ((2 : Int32) &&& 31))))).bind (fun q126 => ((m_XP_copy q126.2 q126.1).bind (fun q129 => (m_XP_writeControl_153 q129))))) else ((m_XP_halfSource (tc_sf (tc_sf (tc_sf σ 21 0) 19 (((tc_gf (tc_sf σ 21 0) 19) &&& 16383) ||| ((l1 &&& 3) <<< ((14 : Int32) &&& 31)))) 20 (((tc_gf (tc_sf (tc_sf σ 21 0) 19 (((tc_gf (tc_sf σ 21 0) 19) &&& 16383) ||| ((l1 &&& 3) <<< ((14 : Int32) &&& 31)))) 20) &&& 3) ||| (((l1 >>> ((4 : Int32) &&& 31)) &&& 15) <<< ((2 : Int32) &&& 31))))).bind (fun q138 => ((m_XP_moveLength (tc_sf q138.2 24 (2 * q138.1))).bind (fun q147 => (m_XP_writeControl_153 (tc_sf q147.2 23 q147.1)))))))))))))
set_option maxHeartbeats 4000000 in
set_option maxRecDepth 100000 in
theorem w_XP_writeControl_0 (C : tc_C p s m args meth c RXP cXP_writeControl 2 none D cA) (hJ : ∀ σ, va_D A (tc_cW ad cA σ)) {q : tc_S} {σ : tc_S} {l1 : Int32} {H : Heap} {locs : List Loc} {ls : Array Slot} (h : m_XP_writeControl σ l1 = some q) (hP : va_P D vwCl (tc_cW ad cA σ) H) (hS : va_S A s.heap H locs) (hl : lv_has ls 2 [(0, .ref (ad 3)), (1, .int l1)]) : W p l e (tc_R 2) s m args below meth c H locs 0 0 (MQ below (tc_Qv D (tc_cW ad cA q) A) args s 0 0 A) (F0 m 0 ls []) := by
  have C0 := C
  obtain ⟨hx, hb, hml, hown, ⟨hK, hN⟩, hr, hlk⟩ := C
  unfold m_XP_writeControl at h
  refine lv_aload_n hx hb dXP_writeControl_0 rfl (lv_at hl 0 rfl) ?_
  refine tc_cg21 C0 hP (tc_use hN tw_91) dXP_writeControl_1 ?_
  refine lv_if_ne (tgt := 13) hx hb dXP_writeControl_4 (by decide) (fun hc => ?_) (fun hc => ?_)
  · have h := tc_in hc h
    refine lv_aload_n hx hb dXP_writeControl_13 rfl (lv_at hl 0 rfl) ?_
    refine lv_iconst (v := 0) hx hb dXP_writeControl_14 (by decide) ?_
    refine tc_cp21 C0 hJ hP hS (tc_use hN tw_91) ⟨by decide, by decide⟩ dXP_writeControl_15 (fun H locs hP hS => ?_)
    refine lv_aload_n hx hb dXP_writeControl_18 rfl (lv_at hl 0 rfl) ?_
    refine lv_aload_n hx hb dXP_writeControl_19 rfl (lv_at hl 0 rfl) ?_
    refine tc_cg19 C0 hP (tc_use hN tw_87) dXP_writeControl_20 ?_
    refine lv_sipush (v := 16383) hx hb dXP_writeControl_23 (by decide) ?_
    refine lv_iand hx hb dXP_writeControl_26 ?_
    refine lv_iload_n hx hb dXP_writeControl_27 rfl (lv_at hl 1 rfl) ?_
    refine lv_iconst (v := 3) hx hb dXP_writeControl_28 (by decide) ?_
    refine lv_iand hx hb dXP_writeControl_29 ?_
    refine lv_bipush (v := 14) hx hb dXP_writeControl_30 (by decide) ?_
    refine lv_ishl hx hb dXP_writeControl_32 ?_
    refine lv_ior hx hb dXP_writeControl_33 ?_
    refine tc_cp19 C0 hJ hP hS (tc_use hN tw_87) dXP_writeControl_34 (fun H locs hP hS => ?_)
    refine lv_aload_n hx hb dXP_writeControl_37 rfl (lv_at hl 0 rfl) ?_
    refine lv_aload_n hx hb dXP_writeControl_38 rfl (lv_at hl 0 rfl) ?_
    refine tc_cg20 C0 hP (tc_use hN tw_89) dXP_writeControl_39 ?_
    refine lv_iconst (v := 3) hx hb dXP_writeControl_42 (by decide) ?_
    refine lv_iand hx hb dXP_writeControl_43 ?_
    refine lv_iload_n hx hb dXP_writeControl_44 rfl (lv_at hl 1 rfl) ?_
    refine lv_iconst (v := 4) hx hb dXP_writeControl_45 (by decide) ?_
    refine lv_ishr hx hb dXP_writeControl_46 ?_
    refine lv_bipush (v := 15) hx hb dXP_writeControl_47 (by decide) ?_
    refine lv_iand hx hb dXP_writeControl_49 ?_
    refine lv_iconst (v := 2) hx hb dXP_writeControl_50 (by decide) ?_
    refine lv_ishl hx hb dXP_writeControl_51 ?_
    refine lv_ior hx hb dXP_writeControl_52 ?_
    refine tc_cp20 C0 hJ hP hS (tc_use hN tw_89) dXP_writeControl_53 (fun H locs hP hS => ?_)
    refine lv_aload_n hx hb dXP_writeControl_56 rfl (lv_at hl 0 rfl) ?_
    refine tc_cg20 C0 hP (tc_use hN tw_89) dXP_writeControl_57 ?_
    refine lv_bipush (v := 32) hx hb dXP_writeControl_60 (by decide) ?_
    refine lv_iand hx hb dXP_writeControl_62 ?_
    refine lv_if_eq (tgt := 78) hx hb dXP_writeControl_63 (by decide) (fun hc => ?_) (fun hc => ?_)
    · have h := tc_ip hc h
      exact w_XP_writeControl_78 C0 hJ h hP hS (lv_sub hl [] rfl)
    · have h := tc_in hc h
      refine lv_aload_n hx hb dXP_writeControl_66 rfl (lv_at hl 0 rfl) ?_
      refine tc_cr_XP_registers C0 hP (tc_use hN tw_84) dXP_writeControl_67 ?_
      refine lv_iconst (v := 1) hx hb dXP_writeControl_70 (by decide) ?_
      obtain ⟨hi, h⟩ := tc_gd_some h
      refine tc_cld14 C0 hP hi dXP_writeControl_71 ?_
      refine lv_bipush (v := 16) hx hb dXP_writeControl_72 (by decide) ?_
      refine lv_iand hx hb dXP_writeControl_74 ?_
      refine lv_if_ne (tgt := 79) hx hb dXP_writeControl_75 (by decide) (fun hc => ?_) (fun hc => ?_)
      · have h := tc_in hc h
        refine lv_aload_n hx hb dXP_writeControl_79 rfl (lv_at hl 0 rfl) ?_
        refine tc_cr_XP_registers C0 hP (tc_use hN tw_84) dXP_writeControl_80 ?_
        refine lv_bipush (v := 15) hx hb dXP_writeControl_83 (by decide) ?_
        obtain ⟨hi, h⟩ := tc_gd_some h
        refine tc_cld14 C0 hP hi dXP_writeControl_85 ?_
        refine lv_bipush (v := 6) hx hb dXP_writeControl_86 (by decide) ?_
        refine lv_ishr hx hb dXP_writeControl_88 ?_
        by_cases hc0 : ((tc_ga (tc_sf (tc_sf (tc_sf σ 21 0) 19 (((tc_gf (tc_sf σ 21 0) 19) &&& 16383) ||| ((l1 &&& 3) <<< ((14 : Int32) &&& 31)))) 20 (((tc_gf (tc_sf (tc_sf σ 21 0) 19 (((tc_gf (tc_sf σ 21 0) 19) &&& 16383) ||| ((l1 &&& 3) <<< ((14 : Int32) &&& 31)))) 20) &&& 3) ||| (((l1 >>> ((4 : Int32) &&& 31)) &&& 15) <<< ((2 : Int32) &&& 31)))) 5 15) >>> ((6 : Int32) &&& 31)) = 2
        · have h := tc_ip hc0 h
          refine lv_lookup (off := 27) (tgt := 116) hx hb dXP_writeControl_89 (by decide) (by rw [hc0]; decide) (by decide) ?_
          refine lv_aload_n hx hb dXP_writeControl_116 rfl (lv_at hl 0 rfl) ?_
          refine lv_iconst (v := 1) hx hb dXP_writeControl_117 (by decide) ?_
          refine tc_cp22 C0 hJ hP hS (tc_use hN tw_94) ⟨by decide, by decide⟩ dXP_writeControl_118 (fun H locs hP hS => ?_)
          refine lv_goto (tgt := 153) hx hb dXP_writeControl_121 (by decide) ?_
          exact w_XP_writeControl_153 C0 hJ h hP hS (lv_sub hl [] rfl)
        have h := tc_in hc0 h
        by_cases hc1 : ((tc_ga (tc_sf (tc_sf (tc_sf σ 21 0) 19 (((tc_gf (tc_sf σ 21 0) 19) &&& 16383) ||| ((l1 &&& 3) <<< ((14 : Int32) &&& 31)))) 20 (((tc_gf (tc_sf (tc_sf σ 21 0) 19 (((tc_gf (tc_sf σ 21 0) 19) &&& 16383) ||| ((l1 &&& 3) <<< ((14 : Int32) &&& 31)))) 20) &&& 3) ||| (((l1 >>> ((4 : Int32) &&& 31)) &&& 15) <<< ((2 : Int32) &&& 31)))) 5 15) >>> ((6 : Int32) &&& 31)) = 3
        · have h := tc_ip hc1 h
          refine lv_lookup (off := 35) (tgt := 124) hx hb dXP_writeControl_89 (by decide) (by rw [hc1]; decide) (by decide) ?_
          refine lv_aload_n hx hb dXP_writeControl_124 rfl (lv_at hl 0 rfl) ?_
          refine lv_aload_n hx hb dXP_writeControl_125 rfl (lv_at hl 0 rfl) ?_
          obtain ⟨q126, e126, h⟩ := tc_bd_some h
          refine tc_cVi (As := []) (rest := [.ref (ad 3)]) C0 (k_XP_moveLength hJ e126) tv_XP_43 (by decide) (by decide) hP hS hl 3 rfl rfl (Nat.le_of_ble_eq_true rfl) dXP_writeControl_126 rfl (fun H locs hP hS => ?_)
          obtain ⟨q129, e129, h⟩ := tc_bd_some h
          refine tc_cVv (As := [.int q126.1]) (rest := []) C0 (k_XP_copy hJ e129) tv_XP_47 (by decide) (by decide) hP hS hl 3 rfl rfl (Nat.le_of_ble_eq_true rfl) dXP_writeControl_129 rfl (fun H locs hP hS => ?_)
          refine lv_goto (tgt := 153) hx hb dXP_writeControl_132 (by decide) ?_
          exact w_XP_writeControl_153 C0 hJ h hP hS (lv_sub hl [] rfl)
        have h := tc_in hc1 h
        refine lv_lookup (off := 46) (tgt := 135) hx hb dXP_writeControl_89 (by decide) (by show Op.lookupswitch.offset [(2, 27), (3, 35)] _ _ = _; rw [lv_osw (a := 2) hc0 (by decide), lv_osw (a := 3) hc1 (by decide)]; rfl) (by decide) ?_
        refine lv_aload_n hx hb dXP_writeControl_135 rfl (lv_at hl 0 rfl) ?_
        refine lv_iconst (v := 2) hx hb dXP_writeControl_136 (by decide) ?_
        refine lv_aload_n hx hb dXP_writeControl_137 rfl (lv_at hl 0 rfl) ?_
        obtain ⟨q138, e138, h⟩ := tc_bd_some h
        refine tc_cVi (As := []) (rest := [.int 2, .ref (ad 3)]) C0 (k_XP_halfSource hJ e138) tv_XP_50 (by decide) (by decide) hP hS hl 3 rfl rfl (Nat.le_of_ble_eq_true rfl) dXP_writeControl_138 rfl (fun H locs hP hS => ?_)
        refine lv_imul hx hb dXP_writeControl_141 ?_
        refine tc_cp24 C0 hJ hP hS (tc_use hN tw_96) dXP_writeControl_142 (fun H locs hP hS => ?_)
        refine lv_aload_n hx hb dXP_writeControl_145 rfl (lv_at hl 0 rfl) ?_
        refine lv_aload_n hx hb dXP_writeControl_146 rfl (lv_at hl 0 rfl) ?_
        obtain ⟨q147, e147, h⟩ := tc_bd_some h
        refine tc_cVi (As := []) (rest := [.ref (ad 3)]) C0 (k_XP_moveLength hJ e147) tv_XP_43 (by decide) (by decide) hP hS hl 3 rfl rfl (Nat.le_of_ble_eq_true rfl) dXP_writeControl_147 rfl (fun H locs hP hS => ?_)
        refine tc_cp23 C0 hJ hP hS (tc_use hN tw_95) dXP_writeControl_150 (fun H locs hP hS => ?_)
        exact w_XP_writeControl_153 C0 hJ h hP hS (lv_sub hl [] rfl)
      · have h := tc_ip hc h
        exact w_XP_writeControl_78 C0 hJ h hP hS (lv_sub hl [] rfl)
  · have h := tc_ip hc h
    refine lv_aload_n hx hb dXP_writeControl_7 rfl (lv_at hl 0 rfl) ?_
    refine lv_iload_n hx hb dXP_writeControl_8 rfl (lv_at hl 1 rfl) ?_
    obtain ⟨q9, e9, h⟩ := tc_bd_some h
    refine tc_cVv (As := [.int l1]) (rest := []) C0 (k_XP_takeFirstWord hJ e9) tv_XP_30 (by decide) (by decide) hP hS hl 3 rfl rfl (Nat.le_of_ble_eq_true rfl) dXP_writeControl_9 rfl (fun H locs hP hS => ?_)
    exact tc_crv C0 hP hS h dXP_writeControl_12
theorem k_XP_writeControl (hJ : ∀ σ, va_D A (tc_cW ad cA σ)) {σ : tc_S} {l1 : Int32} {q : tc_S} (h : m_XP_writeControl σ l1 = some q) : Met l yXP_writeControl [.code yXP_writeControl cXP_writeControl 2 none] (tc_R 2) (tc_Pc D cA (tc_cW ad cA σ) [.ref (ad 3), .int l1]) (tc_Qv D (tc_cW ad cA q) A) 0 0 A :=
  tc_met (by decide) (Nat.le_of_ble_eq_true rfl) (fun _ _ _ _ _ _ _ C hP _ hl => w_XP_writeControl_0 C hJ h hP va_S.rf hl)
def m_XS_setReset_51 (σ : tc_S) (l1 : Int32) : Option (tc_S) := (tc_gb l1 (some (tc_sf σ 16 l1)))
set_option maxHeartbeats 4000000 in
set_option maxRecDepth 100000 in
theorem w_XS_setReset_51 (C : tc_C p s m args meth c RXS cXS_setReset 2 none D cA) (hJ : ∀ σ, va_D A (tc_cW ad cA σ)) {q : tc_S} {σ : tc_S} {l1 : Int32} {H : Heap} {locs : List Loc} {ls : Array Slot} (h : m_XS_setReset_51 σ l1 = some q) (hP : va_P D vwCl (tc_cW ad cA σ) H) (hS : va_S A s.heap H locs) (hl : lv_has ls 2 [(0, .ref (ad 2)), (1, .int l1)]) : W p l e (tc_R 0) s m args below meth c H locs 0 0 (MQ below (tc_Qv D (tc_cW ad cA q) A) args s 0 0 A) (F0 m 51 ls []) := by
  have C0 := C
  obtain ⟨hx, hb, hml, hown, ⟨hK, hN⟩, hr, hlk⟩ := C
  unfold m_XS_setReset_51 at h
  refine lv_aload_n hx hb dXS_setReset_51 rfl (lv_at hl 0 rfl) ?_
  refine lv_iload_n hx hb dXS_setReset_52 rfl (lv_at hl 1 rfl) ?_
  obtain ⟨hz, h⟩ := tc_gb_some h
  refine tc_cp16 C0 hJ hP hS (tc_use hN tw_40) hz dXS_setReset_53 (fun H locs hP hS => ?_)
  exact tc_crv C0 hP hS h dXS_setReset_56
def m_XS_setReset (σ : tc_S) (l1 : Int32) : Option (tc_S) := (if (tc_gf σ 16) = 0 then (m_XS_setReset_51 σ l1) else (if l1 = 0 then (m_XS_setReset_51 (tc_sf (tc_sf (tc_sf (tc_sf (tc_sf (tc_sf (tc_sf (tc_sf σ 8 0) 9 0) 10 0) 11 0) 12 0) 13 0) 14 0) 17 0) l1) else (m_XS_setReset_51 σ l1)))
set_option maxHeartbeats 4000000 in
set_option maxRecDepth 100000 in
theorem w_XS_setReset_0 (C : tc_C p s m args meth c RXS cXS_setReset 2 none D cA) (hJ : ∀ σ, va_D A (tc_cW ad cA σ)) {q : tc_S} {σ : tc_S} {l1 : Int32} {H : Heap} {locs : List Loc} {ls : Array Slot} (h : m_XS_setReset σ l1 = some q) (hP : va_P D vwCl (tc_cW ad cA σ) H) (hS : va_S A s.heap H locs) (hl : lv_has ls 2 [(0, .ref (ad 2)), (1, .int l1)]) : W p l e (tc_R 0) s m args below meth c H locs 0 0 (MQ below (tc_Qv D (tc_cW ad cA q) A) args s 0 0 A) (F0 m 0 ls []) := by
  have C0 := C
  obtain ⟨hx, hb, hml, hown, ⟨hK, hN⟩, hr, hlk⟩ := C
  unfold m_XS_setReset at h
  refine lv_aload_n hx hb dXS_setReset_0 rfl (lv_at hl 0 rfl) ?_
  refine tc_cg16 C0 hP (tc_use hN tw_40) dXS_setReset_1 ?_
  refine lv_if_eq (tgt := 51) hx hb dXS_setReset_4 (by decide) (fun hc => ?_) (fun hc => ?_)
  · have h := tc_ip hc h
    exact w_XS_setReset_51 C0 hJ h hP hS (lv_sub hl [0, 1] rfl)
  · have h := tc_in hc h
    refine lv_iload_n hx hb dXS_setReset_7 rfl (lv_at hl 1 rfl) ?_
    refine lv_if_ne (tgt := 51) hx hb dXS_setReset_8 (by decide) (fun hc => ?_) (fun hc => ?_)
    · have h := tc_in hc h
      exact w_XS_setReset_51 C0 hJ h hP hS (lv_sub hl [0, 1] rfl)
    · have h := tc_ip hc h
      refine lv_aload_n hx hb dXS_setReset_11 rfl (lv_at hl 0 rfl) ?_
      refine lv_iconst (v := 0) hx hb dXS_setReset_12 (by decide) ?_
      refine tc_cp8 C0 hJ hP hS (tc_use hN tw_27) dXS_setReset_13 (fun H locs hP hS => ?_)
      refine lv_aload_n hx hb dXS_setReset_16 rfl (lv_at hl 0 rfl) ?_
      refine lv_iconst (v := 0) hx hb dXS_setReset_17 (by decide) ?_
      refine tc_cp9 C0 hJ hP hS (tc_use hN tw_29) dXS_setReset_18 (fun H locs hP hS => ?_)
      refine lv_aload_n hx hb dXS_setReset_21 rfl (lv_at hl 0 rfl) ?_
      refine lv_iconst (v := 0) hx hb dXS_setReset_22 (by decide) ?_
      refine tc_cp10 C0 hJ hP hS (tc_use hN tw_31) dXS_setReset_23 (fun H locs hP hS => ?_)
      refine lv_aload_n hx hb dXS_setReset_26 rfl (lv_at hl 0 rfl) ?_
      refine lv_iconst (v := 0) hx hb dXS_setReset_27 (by decide) ?_
      refine tc_cp11 C0 hJ hP hS (tc_use hN tw_33) dXS_setReset_28 (fun H locs hP hS => ?_)
      refine lv_aload_n hx hb dXS_setReset_31 rfl (lv_at hl 0 rfl) ?_
      refine lv_iconst (v := 0) hx hb dXS_setReset_32 (by decide) ?_
      refine tc_cp12 C0 hJ hP hS (tc_use hN tw_35) ⟨by decide, by decide⟩ dXS_setReset_33 (fun H locs hP hS => ?_)
      refine lv_aload_n hx hb dXS_setReset_36 rfl (lv_at hl 0 rfl) ?_
      refine lv_iconst (v := 0) hx hb dXS_setReset_37 (by decide) ?_
      refine tc_cp13 C0 hJ hP hS (tc_use hN tw_36) ⟨by decide, by decide⟩ dXS_setReset_38 (fun H locs hP hS => ?_)
      refine lv_aload_n hx hb dXS_setReset_41 rfl (lv_at hl 0 rfl) ?_
      refine lv_iconst (v := 0) hx hb dXS_setReset_42 (by decide) ?_
      refine tc_cp14 C0 hJ hP hS (tc_use hN tw_37) ⟨by decide, by decide⟩ dXS_setReset_43 (fun H locs hP hS => ?_)
      refine lv_aload_n hx hb dXS_setReset_46 rfl (lv_at hl 0 rfl) ?_
      refine lv_iconst (v := 0) hx hb dXS_setReset_47 (by decide) ?_
      refine tc_cp17 C0 hJ hP hS (tc_use hN tw_41) dXS_setReset_48 (fun H locs hP hS => ?_)
      exact w_XS_setReset_51 C0 hJ h hP hS (lv_sub hl [0, 1] rfl)
theorem k_XS_setReset (hJ : ∀ σ, va_D A (tc_cW ad cA σ)) {σ : tc_S} {l1 : Int32} {q : tc_S} (h : m_XS_setReset σ l1 = some q) : Met l yXS_setReset [.code yXS_setReset cXS_setReset 2 none] (tc_R 0) (tc_Pc D cA (tc_cW ad cA σ) [.ref (ad 2), .int l1]) (tc_Qv D (tc_cW ad cA q) A) 0 0 A :=
  tc_met (by decide) (Nat.le_of_ble_eq_true rfl) (fun _ _ _ _ _ _ _ C hP _ hl => w_XS_setReset_0 C hJ h hP va_S.rf hl)
def m_XU_writeMemory_78 (σ : tc_S) : Option (tc_S) := (some σ)
set_option maxHeartbeats 4000000 in
set_option maxRecDepth 100000 in
theorem w_XU_writeMemory_78 (C : tc_C p s m args meth c RXU cXU_writeMemory 3 none D cA) (hJ : ∀ σ, va_D A (tc_cW ad cA σ)) {q : tc_S} {σ : tc_S} {H : Heap} {locs : List Loc} {ls : Array Slot} (h : m_XU_writeMemory_78 σ = some q) (hP : va_P D vwCl (tc_cW ad cA σ) H) (hS : va_S A s.heap H locs) (hl : lv_has ls 3 []) : W p l e (tc_R 1) s m args below meth c H locs 0 0 (MQ below (tc_Qv D (tc_cW ad cA q) A) args s 0 0 A) (F0 m 78 ls []) := by
  have C0 := C
  obtain ⟨hx, hb, hml, hown, ⟨hK, hN⟩, hr, hlk⟩ := C
  unfold m_XU_writeMemory_78 at h
  exact tc_crv C0 hP hS h dXU_writeMemory_78
def m_XU_writeMemory_37 (σ : tc_S) (l1 l2 : Int32) : Option (tc_S) := (if l1 < 768 then (m_XU_writeMemory_78 σ) else (if 896 ≤ l1 then (m_XU_writeMemory_78 σ) else ((m_XS_stands σ).bind (fun q55 => (if q55.1 = 0 then (m_XU_writeMemory_78 q55.2) else (tc_gd (l1 - 768) 128 (m_XU_writeMemory_78 (tc_sa q55.2 1 (l1 - 768) (l2 >>> ((8 : Int32) &&& 31))))))))))
set_option maxHeartbeats 4000000 in
set_option maxRecDepth 100000 in
theorem w_XU_writeMemory_37 (C : tc_C p s m args meth c RXU cXU_writeMemory 3 none D cA) (hJ : ∀ σ, va_D A (tc_cW ad cA σ)) {q : tc_S} {σ : tc_S} {l1 l2 : Int32} {H : Heap} {locs : List Loc} {ls : Array Slot} (h : m_XU_writeMemory_37 σ l1 l2 = some q) (hP : va_P D vwCl (tc_cW ad cA σ) H) (hS : va_S A s.heap H locs) (hl : lv_has ls 3 [(0, .ref (ad 6)), (1, .int l1), (2, .int l2)]) : W p l e (tc_R 1) s m args below meth c H locs 0 0 (MQ below (tc_Qv D (tc_cW ad cA q) A) args s 0 0 A) (F0 m 37 ls []) := by
  have C0 := C
  obtain ⟨hx, hb, hml, hown, ⟨hK, hN⟩, hr, hlk⟩ := C
  unfold m_XU_writeMemory_37 at h
  refine lv_iload_n hx hb dXU_writeMemory_37 rfl (lv_at hl 1 rfl) ?_
  refine lv_sipush (v := 768) hx hb dXU_writeMemory_38 (by decide) ?_
  refine lv_icmp_lt (tgt := 78) hx hb dXU_writeMemory_41 (by decide) (fun hc => ?_) (fun hc => ?_)
  · have h := tc_ip hc h
    exact w_XU_writeMemory_78 C0 hJ h hP hS (lv_sub hl [] rfl)
  · have h := tc_in hc h
    refine lv_iload_n hx hb dXU_writeMemory_44 rfl (lv_at hl 1 rfl) ?_
    refine lv_sipush (v := 896) hx hb dXU_writeMemory_45 (by decide) ?_
    refine lv_icmp_ge (tgt := 78) hx hb dXU_writeMemory_48 (by decide) (fun hc => ?_) (fun hc => ?_)
    · have h := tc_ip hc h
      exact w_XU_writeMemory_78 C0 hJ h hP hS (lv_sub hl [] rfl)
    · have h := tc_in hc h
      refine lv_aload_n hx hb dXU_writeMemory_51 rfl (lv_at hl 0 rfl) ?_
      refine tc_cr_XU_second C0 hP (tc_use hN tw_200) dXU_writeMemory_52 ?_
      obtain ⟨q55, e55, h⟩ := tc_bd_some h
      refine tc_cVi (As := []) (rest := []) C0 (k_XS_stands hJ e55) tv_XU_32 (by decide) (by decide) hP hS hl 2 rfl rfl (Nat.le_of_ble_eq_true rfl) dXU_writeMemory_55 rfl (fun H locs hP hS => ?_)
      refine lv_if_eq (tgt := 78) hx hb dXU_writeMemory_58 (by decide) (fun hc => ?_) (fun hc => ?_)
      · have h := tc_ip hc h
        exact w_XU_writeMemory_78 C0 hJ h hP hS (lv_sub hl [] rfl)
      · have h := tc_in hc h
        refine lv_aload_n hx hb dXU_writeMemory_61 rfl (lv_at hl 0 rfl) ?_
        refine tc_cr_XU_second C0 hP (tc_use hN tw_200) dXU_writeMemory_62 ?_
        refine tc_crN_XS_ram C0 hP (tc_use hN tw_25) dXU_writeMemory_65 ?_
        refine lv_iload_n hx hb dXU_writeMemory_68 rfl (lv_at hl 1 rfl) ?_
        refine lv_sipush (v := 768) hx hb dXU_writeMemory_69 (by decide) ?_
        refine lv_isub hx hb dXU_writeMemory_72 ?_
        refine lv_iload_n hx hb dXU_writeMemory_73 rfl (lv_at hl 2 rfl) ?_
        refine lv_bipush (v := 8) hx hb dXU_writeMemory_74 (by decide) ?_
        refine lv_ishr hx hb dXU_writeMemory_76 ?_
        obtain ⟨hi, h⟩ := tc_gd_some h
        refine tc_cst10 C0 hJ hP hS hi dXU_writeMemory_77 (fun H locs hP hS => ?_)
        exact w_XU_writeMemory_78 C0 hJ h hP hS (lv_sub hl [] rfl)
def m_XU_writeMemory (σ : tc_S) (l1 l2 : Int32) : Option (tc_S) := (if (l1 &&& 1) = 0 then (if l1 < 512 then (m_XU_writeMemory_37 σ l1 l2) else (if 640 ≤ l1 then (m_XU_writeMemory_37 σ l1 l2) else (tc_gd ((l1 - 512) >>> ((1 : Int32) &&& 31)) 64 (m_XU_writeMemory_78 (tc_sa σ 8 ((l1 - 512) >>> ((1 : Int32) &&& 31)) l2))))) else (some σ))
set_option maxHeartbeats 4000000 in
set_option maxRecDepth 100000 in
theorem w_XU_writeMemory_0 (C : tc_C p s m args meth c RXU cXU_writeMemory 3 none D cA) (hJ : ∀ σ, va_D A (tc_cW ad cA σ)) {q : tc_S} {σ : tc_S} {l1 l2 : Int32} {H : Heap} {locs : List Loc} {ls : Array Slot} (h : m_XU_writeMemory σ l1 l2 = some q) (hP : va_P D vwCl (tc_cW ad cA σ) H) (hS : va_S A s.heap H locs) (hl : lv_has ls 3 [(0, .ref (ad 6)), (1, .int l1), (2, .int l2)]) : W p l e (tc_R 1) s m args below meth c H locs 0 0 (MQ below (tc_Qv D (tc_cW ad cA q) A) args s 0 0 A) (F0 m 0 ls []) := by
  have C0 := C
  obtain ⟨hx, hb, hml, hown, ⟨hK, hN⟩, hr, hlk⟩ := C
  unfold m_XU_writeMemory at h
  refine lv_iload_n hx hb dXU_writeMemory_0 rfl (lv_at hl 1 rfl) ?_
  refine lv_iconst (v := 1) hx hb dXU_writeMemory_1 (by decide) ?_
  refine lv_iand hx hb dXU_writeMemory_2 ?_
  refine lv_if_eq (tgt := 7) hx hb dXU_writeMemory_3 (by decide) (fun hc => ?_) (fun hc => ?_)
  · have h := tc_ip hc h
    refine lv_iload_n hx hb dXU_writeMemory_7 rfl (lv_at hl 1 rfl) ?_
    refine lv_sipush (v := 512) hx hb dXU_writeMemory_8 (by decide) ?_
    refine lv_icmp_lt (tgt := 37) hx hb dXU_writeMemory_11 (by decide) (fun hc => ?_) (fun hc => ?_)
    · have h := tc_ip hc h
      exact w_XU_writeMemory_37 C0 hJ h hP hS (lv_sub hl [0, 1, 2] rfl)
    · have h := tc_in hc h
      refine lv_iload_n hx hb dXU_writeMemory_14 rfl (lv_at hl 1 rfl) ?_
      refine lv_sipush (v := 640) hx hb dXU_writeMemory_15 (by decide) ?_
      refine lv_icmp_ge (tgt := 37) hx hb dXU_writeMemory_18 (by decide) (fun hc => ?_) (fun hc => ?_)
      · have h := tc_ip hc h
        exact w_XU_writeMemory_37 C0 hJ h hP hS (lv_sub hl [0, 1, 2] rfl)
      · have h := tc_in hc h
        refine lv_aload_n hx hb dXU_writeMemory_21 rfl (lv_at hl 0 rfl) ?_
        refine tc_cr_XU_ram C0 hP (tc_use hN tw_199) dXU_writeMemory_22 ?_
        refine lv_iload_n hx hb dXU_writeMemory_25 rfl (lv_at hl 1 rfl) ?_
        refine lv_sipush (v := 512) hx hb dXU_writeMemory_26 (by decide) ?_
        refine lv_isub hx hb dXU_writeMemory_29 ?_
        refine lv_iconst (v := 1) hx hb dXU_writeMemory_30 (by decide) ?_
        refine lv_ishr hx hb dXU_writeMemory_31 ?_
        refine lv_iload_n hx hb dXU_writeMemory_32 rfl (lv_at hl 2 rfl) ?_
        obtain ⟨hi, h⟩ := tc_gd_some h
        refine tc_cst8 C0 hJ hP hS hi dXU_writeMemory_33 (fun H locs hP hS => ?_)
        refine lv_goto (tgt := 78) hx hb dXU_writeMemory_34 (by decide) ?_
        exact w_XU_writeMemory_78 C0 hJ h hP hS (lv_sub hl [] rfl)
  · have h := tc_in hc h
    exact tc_crv C0 hP hS h dXU_writeMemory_6
theorem k_XU_writeMemory (hJ : ∀ σ, va_D A (tc_cW ad cA σ)) {σ : tc_S} {l1 l2 : Int32} {q : tc_S} (h : m_XU_writeMemory σ l1 l2 = some q) : Met l yXU_writeMemory [.code yXU_writeMemory cXU_writeMemory 3 none] (tc_R 1) (tc_Pc D cA (tc_cW ad cA σ) [.ref (ad 6), .int l1, .int l2]) (tc_Qv D (tc_cW ad cA q) A) 0 0 A :=
  tc_met (by decide) (Nat.le_of_ble_eq_true rfl) (fun _ _ _ _ _ _ _ C hP _ hl => w_XU_writeMemory_0 C hJ h hP va_S.rf hl)
def m_XU_write_137 (σ : tc_S) : Option (tc_S) := (some σ)
set_option maxHeartbeats 4000000 in
set_option maxRecDepth 100000 in
theorem w_XU_write_137 (C : tc_C p s m args meth c RXU cXU_write 3 none D cA) (hJ : ∀ σ, va_D A (tc_cW ad cA σ)) {q : tc_S} {σ : tc_S} {H : Heap} {locs : List Loc} {ls : Array Slot} (h : m_XU_write_137 σ = some q) (hP : va_P D vwCl (tc_cW ad cA σ) H) (hS : va_S A s.heap H locs) (hl : lv_has ls 3 []) : W p l e (tc_R 3) s m args below meth c H locs 0 0 (MQ below (tc_Qv D (tc_cW ad cA q) A) args s 0 0 A) (F0 m 137 ls []) := by
  have C0 := C
  obtain ⟨hx, hb, hml, hown, ⟨hK, hN⟩, hr, hlk⟩ := C
  unfold m_XU_write_137 at h
  exact tc_crv C0 hP hS h dXU_write_137
def m_XU_write_91 (σ : tc_S) (k0 : Int32) : Option (tc_S) := (tc_gb k0 (m_XU_write_137 (tc_sf σ 15 k0)))
set_option maxHeartbeats 4000000 in
set_option maxRecDepth 100000 in
theorem w_XU_write_91 (C : tc_C p s m args meth c RXU cXU_write 3 none D cA) (hJ : ∀ σ, va_D A (tc_cW ad cA σ)) {q : tc_S} {σ : tc_S} {k0 : Int32} {H : Heap} {locs : List Loc} {ls : Array Slot} (h : m_XU_write_91 σ k0 = some q) (hP : va_P D vwCl (tc_cW ad cA σ) H) (hS : va_S A s.heap H locs) (hl : lv_has ls 3 []) : W p l e (tc_R 3) s m args below meth c H locs 0 0 (MQ below (tc_Qv D (tc_cW ad cA q) A) args s 0 0 A) (F0 m 91 ls [.int k0, .ref (ad 2)]) := by
  have C0 := C
  obtain ⟨hx, hb, hml, hown, ⟨hK, hN⟩, hr, hlk⟩ := C
  unfold m_XU_write_91 at h
  obtain ⟨hz, h⟩ := tc_gb_some h
  refine tc_cpN15 C0 hJ hP hS (tc_use hN tw_39) hz dXU_write_91 (fun H locs hP hS => ?_)
  refine lv_goto (tgt := 137) hx hb dXU_write_94 (by decide) ?_
  exact w_XU_write_137 C0 hJ h hP hS (lv_sub hl [] rfl)
def m_XU_write_114 (σ : tc_S) (k0 : Int32) : Option (tc_S) := ((m_XS_setReset σ k0).bind (fun q114 => (m_XU_write_137 q114)))
set_option maxHeartbeats 4000000 in
set_option maxRecDepth 100000 in
theorem w_XU_write_114 (C : tc_C p s m args meth c RXU cXU_write 3 none D cA) (hJ : ∀ σ, va_D A (tc_cW ad cA σ)) {q : tc_S} {σ : tc_S} {k0 : Int32} {H : Heap} {locs : List Loc} {ls : Array Slot} (h : m_XU_write_114 σ k0 = some q) (hP : va_P D vwCl (tc_cW ad cA σ) H) (hS : va_S A s.heap H locs) (hl : lv_has ls 3 []) : W p l e (tc_R 3) s m args below meth c H locs 0 0 (MQ below (tc_Qv D (tc_cW ad cA q) A) args s 0 0 A) (F0 m 114 ls [.int k0, .ref (ad 2)]) := by
  have C0 := C
  obtain ⟨hx, hb, hml, hown, ⟨hK, hN⟩, hr, hlk⟩ := C
  unfold m_XU_write_114 at h
  obtain ⟨q114, e114, h⟩ := tc_bd_some h
  refine tc_cVv (As := [.int k0]) (rest := []) C0 (k_XS_setReset hJ e114) tv_XU_75 (by decide) (by decide) hP hS hl 2 rfl rfl (Nat.le_of_ble_eq_true rfl) dXU_write_114 rfl (fun H locs hP hS => ?_)
  refine lv_goto (tgt := 137) hx hb dXU_write_117 (by decide) ?_
  exact w_XU_write_137 C0 hJ h hP hS (lv_sub hl [] rfl)
def m_XU_write (σ : tc_S) (l1 l2 : Int32) : Option (tc_S) := (if l1 = 1024 then ((m_XP_writeData σ l2).bind (fun q57 => (m_XU_write_137 q57))) else (if l1 = 1028 then ((m_XP_writeControl σ l2).bind (fun q68 => (m_XU_write_137 q68))) else (if l1 = 1040 then (if (l2 &&& 256) = 0 then (m_XU_write_91 σ 0) else (m_XU_write_91 σ 1)) else (if l1 = 1044 then (if (l2 &&& 256) = 0 then (m_XU_write_114 σ 1) else (m_XU_write_114 σ 0)) else (if l1 = 1048 then (m_XU_write_137 (tc_sf σ 33 (l2 &&& 64))) else ((m_XU_writeMemory σ l1 l2).bind (fun q134 => (m_XU_write_137 q134))))))))
set_option maxHeartbeats 4000000 in
set_option maxRecDepth 100000 in
theorem w_XU_write_0 (C : tc_C p s m args meth c RXU cXU_write 3 none D cA) (hJ : ∀ σ, va_D A (tc_cW ad cA σ)) {q : tc_S} {σ : tc_S} {l1 l2 : Int32} {H : Heap} {locs : List Loc} {ls : Array Slot} (h : m_XU_write σ l1 l2 = some q) (hP : va_P D vwCl (tc_cW ad cA σ) H) (hS : va_S A s.heap H locs) (hl : lv_has ls 3 [(0, .ref (ad 6)), (1, .int l1), (2, .int l2)]) : W p l e (tc_R 3) s m args below meth c H locs 0 0 (MQ below (tc_Qv D (tc_cW ad cA q) A) args s 0 0 A) (F0 m 0 ls []) := by
  have C0 := C
  obtain ⟨hx, hb, hml, hown, ⟨hK, hN⟩, hr, hlk⟩ := C
  unfold m_XU_write at h
  refine lv_iload_n hx hb dXU_write_0 rfl (lv_at hl 1 rfl) ?_
  by_cases hc0 : l1 = 1024
  · have h := tc_ip hc0 h
    refine lv_lookup (off := 51) (tgt := 52) hx hb dXU_write_1 (by decide) (by rw [hc0]; decide) (by decide) ?_
    refine lv_aload_n hx hb dXU_write_52 rfl (lv_at hl 0 rfl) ?_
    refine tc_cr_XU_picture C0 hP (tc_use hN tw_201) dXU_write_53 ?_
    refine lv_iload_n hx hb dXU_write_56 rfl (lv_at hl 2 rfl) ?_
    obtain ⟨q57, e57, h⟩ := tc_bd_some h
    refine tc_cVv (As := [.int l2]) (rest := []) C0 (k_XP_writeData hJ e57) tv_XU_68 (by decide) (by decide) hP hS hl 3 rfl rfl (Nat.le_of_ble_eq_true rfl) dXU_write_57 rfl (fun H locs hP hS => ?_)
    refine lv_goto (tgt := 137) hx hb dXU_write_60 (by decide) ?_
    exact w_XU_write_137 C0 hJ h hP hS (lv_sub hl [] rfl)
  have h := tc_in hc0 h
  by_cases hc1 : l1 = 1028
  · have h := tc_ip hc1 h
    refine lv_lookup (off := 62) (tgt := 63) hx hb dXU_write_1 (by decide) (by rw [hc1]; decide) (by decide) ?_
    refine lv_aload_n hx hb dXU_write_63 rfl (lv_at hl 0 rfl) ?_
    refine tc_cr_XU_picture C0 hP (tc_use hN tw_201) dXU_write_64 ?_
    refine lv_iload_n hx hb dXU_write_67 rfl (lv_at hl 2 rfl) ?_
    obtain ⟨q68, e68, h⟩ := tc_bd_some h
    refine tc_cVv (As := [.int l2]) (rest := []) C0 (k_XP_writeControl hJ e68) tv_XU_72 (by decide) (by decide) hP hS hl 3 rfl rfl (Nat.le_of_ble_eq_true rfl) dXU_write_68 rfl (fun H locs hP hS => ?_)
    refine lv_goto (tgt := 137) hx hb dXU_write_71 (by decide) ?_
    exact w_XU_write_137 C0 hJ h hP hS (lv_sub hl [] rfl)
  have h := tc_in hc1 h
  by_cases hc2 : l1 = 1040
  · have h := tc_ip hc2 h
    refine lv_lookup (off := 73) (tgt := 74) hx hb dXU_write_1 (by decide) (by rw [hc2]; decide) (by decide) ?_
    refine lv_aload_n hx hb dXU_write_74 rfl (lv_at hl 0 rfl) ?_
    refine tc_cr_XU_second C0 hP (tc_use hN tw_200) dXU_write_75 ?_
    refine lv_iload_n hx hb dXU_write_78 rfl (lv_at hl 2 rfl) ?_
    refine lv_sipush (v := 256) hx hb dXU_write_79 (by decide) ?_
    refine lv_iand hx hb dXU_write_82 ?_
    refine lv_if_eq (tgt := 90) hx hb dXU_write_83 (by decide) (fun hc => ?_) (fun hc => ?_)
    · have h := tc_ip hc h
      refine lv_iconst (v := 0) hx hb dXU_write_90 (by decide) ?_
      exact w_XU_write_91 C0 hJ h hP hS (lv_sub hl [] rfl)
    · have h := tc_in hc h
      refine lv_iconst (v := 1) hx hb dXU_write_86 (by decide) ?_
      refine lv_goto (tgt := 91) hx hb dXU_write_87 (by decide) ?_
      exact w_XU_write_91 C0 hJ h hP hS (lv_sub hl [] rfl)
  have h := tc_in hc2 h
  by_cases hc3 : l1 = 1044
  · have h := tc_ip hc3 h
    refine lv_lookup (off := 96) (tgt := 97) hx hb dXU_write_1 (by decide) (by rw [hc3]; decide) (by decide) ?_
    refine lv_aload_n hx hb dXU_write_97 rfl (lv_at hl 0 rfl) ?_
    refine tc_cr_XU_second C0 hP (tc_use hN tw_200) dXU_write_98 ?_
    refine lv_iload_n hx hb dXU_write_101 rfl (lv_at hl 2 rfl) ?_
    refine lv_sipush (v := 256) hx hb dXU_write_102 (by decide) ?_
    refine lv_iand hx hb dXU_write_105 ?_
    refine lv_if_ne (tgt := 113) hx hb dXU_write_106 (by decide) (fun hc => ?_) (fun hc => ?_)
    · have h := tc_in hc h
      refine lv_iconst (v := 0) hx hb dXU_write_113 (by decide) ?_
      exact w_XU_write_114 C0 hJ h hP hS (lv_sub hl [] rfl)
    · have h := tc_ip hc h
      refine lv_iconst (v := 1) hx hb dXU_write_109 (by decide) ?_
      refine lv_goto (tgt := 114) hx hb dXU_write_110 (by decide) ?_
      exact w_XU_write_114 C0 hJ h hP hS (lv_sub hl [] rfl)
  have h := tc_in hc3 h
  by_cases hc4 : l1 = 1048
  · have h := tc_ip hc4 h
    refine lv_lookup (off := 119) (tgt := 120) hx hb dXU_write_1 (by decide) (by rw [hc4]; decide) (by decide) ?_
    refine lv_aload_n hx hb dXU_write_120 rfl (lv_at hl 0 rfl) ?_
    refine lv_iload_n hx hb dXU_write_121 rfl (lv_at hl 2 rfl) ?_
    refine lv_bipush (v := 64) hx hb dXU_write_122 (by decide) ?_
    refine lv_iand hx hb dXU_write_124 ?_
    refine tc_cp33 C0 hJ hP hS (tc_use hN tw_206) dXU_write_125 (fun H locs hP hS => ?_)
    refine lv_goto (tgt := 137) hx hb dXU_write_128 (by decide) ?_
    exact w_XU_write_137 C0 hJ h hP hS (lv_sub hl [] rfl)
  have h := tc_in hc4 h
  refine lv_lookup (off := 130) (tgt := 131) hx hb dXU_write_1 (by decide) (by show Op.lookupswitch.offset [(1024, 51), (1028, 62), (1040, 73), (1044, 96), (1048, 119)] _ _ = _; rw [lv_osw (a := 1024) hc0 (by decide), lv_osw (a := 1028) hc1 (by decide), lv_osw (a := 1040) hc2 (by decide), lv_osw (a := 1044) hc3 (by decide), lv_osw (a := 1048) hc4 (by decide)]; rfl) (by decide) ?_
  refine lv_aload_n hx hb dXU_write_131 rfl (lv_at hl 0 rfl) ?_
  refine lv_iload_n hx hb dXU_write_132 rfl (lv_at hl 1 rfl) ?_
  refine lv_iload_n hx hb dXU_write_133 rfl (lv_at hl 2 rfl) ?_
  obtain ⟨q134, e134, h⟩ := tc_bd_some h
  refine tc_cVv (As := [.int l1, .int l2]) (rest := []) C0 (k_XU_writeMemory hJ e134) tv_XU_82 (by decide) (by decide) hP hS hl 6 rfl rfl (Nat.le_of_ble_eq_true rfl) dXU_write_134 rfl (fun H locs hP hS => ?_)
  exact w_XU_write_137 C0 hJ h hP hS (lv_sub hl [] rfl)
theorem k_XU_write (hJ : ∀ σ, va_D A (tc_cW ad cA σ)) {σ : tc_S} {l1 l2 : Int32} {q : tc_S} (h : m_XU_write σ l1 l2 = some q) : Met l yXU_write [.code yXU_write cXU_write 3 none] (tc_R 3) (tc_Pc D cA (tc_cW ad cA σ) [.ref (ad 6), .int l1, .int l2]) (tc_Qv D (tc_cW ad cA q) A) 0 0 A :=
  tc_met (by decide) (Nat.le_of_ble_eq_true rfl) (fun _ _ _ _ _ _ _ C hP _ hl => w_XU_write_0 C hJ h hP va_S.rf hl)
def m_XM_setMoveFlags_23 (σ : tc_S) (k0 : Int32) : Option (tc_S) := (tc_gb k0 (some (tc_sf (tc_sf (tc_sf σ 4 k0) 5 0) 6 0)))
set_option maxHeartbeats 4000000 in
set_option maxRecDepth 100000 in
theorem w_XM_setMoveFlags_23 (C : tc_C p s m args meth c RXM cXM_setMoveFlags 2 none D cA) (hJ : ∀ σ, va_D A (tc_cW ad cA σ)) {q : tc_S} {σ : tc_S} {k0 : Int32} {H : Heap} {locs : List Loc} {ls : Array Slot} (h : m_XM_setMoveFlags_23 σ k0 = some q) (hP : va_P D vwCl (tc_cW ad cA σ) H) (hS : va_S A s.heap H locs) (hl : lv_has ls 2 [(0, .ref (ad 1))]) : W p l e (tc_R 0) s m args below meth c H locs 0 0 (MQ below (tc_Qv D (tc_cW ad cA q) A) args s 0 0 A) (F0 m 23 ls [.int k0, .ref (ad 1)]) := by
  have C0 := C
  obtain ⟨hx, hb, hml, hown, ⟨hK, hN⟩, hr, hlk⟩ := C
  unfold m_XM_setMoveFlags_23 at h
  obtain ⟨hz, h⟩ := tc_gb_some h
  refine tc_cp4 C0 hJ hP hS (tc_use hN tw_240) hz dXM_setMoveFlags_23 (fun H locs hP hS => ?_)
  refine lv_aload_n hx hb dXM_setMoveFlags_26 rfl (lv_at hl 0 rfl) ?_
  refine lv_iconst (v := 0) hx hb dXM_setMoveFlags_27 (by decide) ?_
  refine tc_cp5 C0 hJ hP hS (tc_use hN tw_241) ⟨by decide, by decide⟩ dXM_setMoveFlags_28 (fun H locs hP hS => ?_)
  refine lv_aload_n hx hb dXM_setMoveFlags_31 rfl (lv_at hl 0 rfl) ?_
  refine lv_iconst (v := 0) hx hb dXM_setMoveFlags_32 (by decide) ?_
  refine tc_cp6 C0 hJ hP hS (tc_use hN tw_242) ⟨by decide, by decide⟩ dXM_setMoveFlags_33 (fun H locs hP hS => ?_)
  exact tc_crv C0 hP hS h dXM_setMoveFlags_36
def m_XM_setMoveFlags_10 (σ : tc_S) (l1 k0 : Int32) : Option (tc_S) := (tc_gb k0 (if l1 = 0 then (m_XM_setMoveFlags_23 (tc_sf σ 3 k0) 1) else (m_XM_setMoveFlags_23 (tc_sf σ 3 k0) 0)))
set_option maxHeartbeats 4000000 in
set_option maxRecDepth 100000 in
theorem w_XM_setMoveFlags_10 (C : tc_C p s m args meth c RXM cXM_setMoveFlags 2 none D cA) (hJ : ∀ σ, va_D A (tc_cW ad cA σ)) {q : tc_S} {σ : tc_S} {l1 k0 : Int32} {H : Heap} {locs : List Loc} {ls : Array Slot} (h : m_XM_setMoveFlags_10 σ l1 k0 = some q) (hP : va_P D vwCl (tc_cW ad cA σ) H) (hS : va_S A s.heap H locs) (hl : lv_has ls 2 [(0, .ref (ad 1)), (1, .int l1)]) : W p l e (tc_R 0) s m args below meth c H locs 0 0 (MQ below (tc_Qv D (tc_cW ad cA q) A) args s 0 0 A) (F0 m 10 ls [.int k0, .ref (ad 1)]) := by
  have C0 := C
  obtain ⟨hx, hb, hml, hown, ⟨hK, hN⟩, hr, hlk⟩ := C
  unfold m_XM_setMoveFlags_10 at h
  obtain ⟨hz, h⟩ := tc_gb_some h
  refine tc_cp3 C0 hJ hP hS (tc_use hN tw_239) hz dXM_setMoveFlags_10 (fun H locs hP hS => ?_)
  refine lv_aload_n hx hb dXM_setMoveFlags_13 rfl (lv_at hl 0 rfl) ?_
  refine lv_iload_n hx hb dXM_setMoveFlags_14 rfl (lv_at hl 1 rfl) ?_
  refine lv_if_ne (tgt := 22) hx hb dXM_setMoveFlags_15 (by decide) (fun hc => ?_) (fun hc => ?_)
  · have h := tc_in hc h
    refine lv_iconst (v := 0) hx hb dXM_setMoveFlags_22 (by decide) ?_
    exact w_XM_setMoveFlags_23 C0 hJ h hP hS (lv_sub hl [0] rfl)
  · have h := tc_ip hc h
    refine lv_iconst (v := 1) hx hb dXM_setMoveFlags_18 (by decide) ?_
    refine lv_goto (tgt := 23) hx hb dXM_setMoveFlags_19 (by decide) ?_
    exact w_XM_setMoveFlags_23 C0 hJ h hP hS (lv_sub hl [0] rfl)
def m_XM_setMoveFlags (σ : tc_S) (l1 : Int32) : Option (tc_S) := (if 0 ≤ l1 then (m_XM_setMoveFlags_10 σ l1 0) else (m_XM_setMoveFlags_10 σ l1 1))
set_option maxHeartbeats 4000000 in
set_option maxRecDepth 100000 in
theorem w_XM_setMoveFlags_0 (C : tc_C p s m args meth c RXM cXM_setMoveFlags 2 none D cA) (hJ : ∀ σ, va_D A (tc_cW ad cA σ)) {q : tc_S} {σ : tc_S} {l1 : Int32} {H : Heap} {locs : List Loc} {ls : Array Slot} (h : m_XM_setMoveFlags σ l1 = some q) (hP : va_P D vwCl (tc_cW ad cA σ) H) (hS : va_S A s.heap H locs) (hl : lv_has ls 2 [(0, .ref (ad 1)), (1, .int l1)]) : W p l e (tc_R 0) s m args below meth c H locs 0 0 (MQ below (tc_Qv D (tc_cW ad cA q) A) args s 0 0 A) (F0 m 0 ls []) := by
  have C0 := C
  obtain ⟨hx, hb, hml, hown, ⟨hK, hN⟩, hr, hlk⟩ := C
  unfold m_XM_setMoveFlags at h
  refine lv_aload_n hx hb dXM_setMoveFlags_0 rfl (lv_at hl 0 rfl) ?_
  refine lv_iload_n hx hb dXM_setMoveFlags_1 rfl (lv_at hl 1 rfl) ?_
  refine lv_if_ge (tgt := 9) hx hb dXM_setMoveFlags_2 (by decide) (fun hc => ?_) (fun hc => ?_)
  · have h := tc_ip hc h
    refine lv_iconst (v := 0) hx hb dXM_setMoveFlags_9 (by decide) ?_
    exact w_XM_setMoveFlags_10 C0 hJ h hP hS (lv_sub hl [0, 1] rfl)
  · have h := tc_in hc h
    refine lv_iconst (v := 1) hx hb dXM_setMoveFlags_5 (by decide) ?_
    refine lv_goto (tgt := 10) hx hb dXM_setMoveFlags_6 (by decide) ?_
    exact w_XM_setMoveFlags_10 C0 hJ h hP hS (lv_sub hl [0, 1] rfl)
theorem k_XM_setMoveFlags (hJ : ∀ σ, va_D A (tc_cW ad cA σ)) {σ : tc_S} {l1 : Int32} {q : tc_S} (h : m_XM_setMoveFlags σ l1 = some q) : Met l yXM_setMoveFlags [.code yXM_setMoveFlags cXM_setMoveFlags 2 none] (tc_R 0) (tc_Pc D cA (tc_cW ad cA σ) [.ref (ad 1), .int l1]) (tc_Qv D (tc_cW ad cA q) A) 0 0 A :=
  tc_met (by decide) (Nat.le_of_ble_eq_true rfl) (fun _ _ _ _ _ _ _ C hP _ hl => w_XM_setMoveFlags_0 C hJ h hP va_S.rf hl)
end WALK_C_01
