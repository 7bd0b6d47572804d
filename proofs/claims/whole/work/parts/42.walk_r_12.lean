section WALK_R_12
variable {p : Program} {l : Launch} {e : Env} {s : State} {m : MethodId} {args : Array Value} {below : List Frame} {meth : Method} {c : Code} {D : va_G} {cA : ClassId} {A : Nat → Prop} {ad : Nat → Nat}
def m_XR_pair (σ : tc_S) : Option (Int32 × tc_S) := ((m_XR_next σ).bind (fun q1 => ((m_XR_next q1.2).bind (fun q10 => (some ((q1.1 + (256 * q10.1)), q10.2))))))
set_option maxHeartbeats 4000000 in
set_option maxRecDepth 100000 in
theorem w_XR_pair_0 (C : tc_C p s m args meth c RXR cXR_pair 2 (some .int) D cA) (hJ : ∀ σ, va_D A (tc_rW ad cA σ)) {q : Int32 × tc_S} {σ : tc_S} {H : Heap} {locs : List Loc} {ls : Array Slot} (h : m_XR_pair σ = some q) (hP : va_P D vwCl (tc_rW ad cA σ) H) (hS : va_S A s.heap H locs) (hl : lv_has ls 2 [(0, .ref (ad 0))]) : W p l e (tc_R 2) s m args below meth c H locs 0 0 (MQ below (tc_Qi D (tc_rW ad cA q.2) A q.1) args s 0 0 A) (F0 m 0 ls []) := by
  have C0 := C
  obtain ⟨hx, hb, hml, hown, ⟨hK, hN⟩, hr, hlk⟩ := C
  unfold m_XR_pair at h
  refine lv_aload_n hx hb dXR_pair_0 rfl (lv_at hl 0 rfl) ?_
  obtain ⟨q1, e1, h⟩ := tc_bd_some h
  refine tc_cVi (As := []) (rest := []) C0 (k_XR_next hJ e1) tv_XR_259 (by decide) (by decide) hP hS hl 0 rfl rfl (Nat.le_of_ble_eq_true rfl) dXR_pair_1 rfl (fun H locs hP hS => ?_)
  refine lv_istore_n (lv' := [(1, .int q1.1), (0, .ref (ad 0))]) hx hb dXR_pair_4 rfl hl (by decide) rfl (fun ls hl => ?_)
  refine lv_iload_n hx hb dXR_pair_5 rfl (lv_at hl 0 rfl) ?_
  refine lv_sipush (v := 256) hx hb dXR_pair_6 (by decide) ?_
  refine lv_aload_n hx hb dXR_pair_9 rfl (lv_at hl 1 rfl) ?_
  obtain ⟨q10, e10, h⟩ := tc_bd_some h
  refine tc_cVi (As := []) (rest := [.int 256, .int q1.1]) C0 (k_XR_next hJ e10) tv_XR_259 (by decide) (by decide) hP hS hl 0 rfl rfl (Nat.le_of_ble_eq_true rfl) dXR_pair_10 rfl (fun H locs hP hS => ?_)
  refine lv_imul hx hb dXR_pair_13 ?_
  refine lv_iadd hx hb dXR_pair_14 ?_
  exact tc_rri C0 hP hS h dXR_pair_15
theorem k_XR_pair (hJ : ∀ σ, va_D A (tc_rW ad cA σ)) {σ : tc_S} {q : Int32 × tc_S} (h : m_XR_pair σ = some q) : Met l yXR_pair [.code yXR_pair cXR_pair 2 (some .int)] (tc_R 2) (tc_Pc D cA (tc_rW ad cA σ) [.ref (ad 0)]) (tc_Qi D (tc_rW ad cA q.2) A q.1) 0 0 A :=
  tc_met (by decide) (Nat.le_of_ble_eq_true rfl) (fun _ _ _ _ _ _ _ C hP _ hl => w_XR_pair_0 C hJ h hP va_S.rf hl)
def m_XR_becomes_22 (σ : tc_S) (k0 : Int32) : Option (tc_S) := (tc_gb k0 (some (tc_sf σ 12 k0)))
set_option maxHeartbeats 4000000 in
set_option maxRecDepth 100000 in
theorem w_XR_becomes_22 (C : tc_C p s m args meth c RXR cXR_becomes 2 none D cA) (hJ : ∀ σ, va_D A (tc_rW ad cA σ)) {q : tc_S} {σ : tc_S} {k0 : Int32} {H : Heap} {locs : List Loc} {ls : Array Slot} (h : m_XR_becomes_22 σ k0 = some q) (hP : va_P D vwCl (tc_rW ad cA σ) H) (hS : va_S A s.heap H locs) (hl : lv_has ls 2 []) : W p l e (tc_R 0) s m args below meth c H locs 0 0 (MQ below (tc_Qv D (tc_rW ad cA q) A) args s 0 0 A) (F0 m 22 ls [.int k0, .ref (ad 0)]) := by
  have C0 := C
  obtain ⟨hx, hb, hml, hown, ⟨hK, hN⟩, hr, hlk⟩ := C
  unfold m_XR_becomes_22 at h
  obtain ⟨hz, h⟩ := tc_gb_some h
  refine tc_rp12 C0 hJ hP hS (tc_use hN tw_643) hz dXR_becomes_22 (fun H locs hP hS => ?_)
  exact tc_rrv C0 hP hS h dXR_becomes_25
def m_XR_becomes (σ : tc_S) (l1 : Int32) : Option (tc_S) := (if (tc_gf (tc_sf σ 8 (l1 &&& 255)) 8) = 0 then (m_XR_becomes_22 (tc_sf σ 8 (l1 &&& 255)) 1) else (m_XR_becomes_22 (tc_sf σ 8 (l1 &&& 255)) 0))
set_option maxHeartbeats 4000000 in
set_option maxRecDepth 100000 in
theorem w_XR_becomes_0 (C : tc_C p s m args meth c RXR cXR_becomes 2 none D cA) (hJ : ∀ σ, va_D A (tc_rW ad cA σ)) {q : tc_S} {σ : tc_S} {l1 : Int32} {H : Heap} {locs : List Loc} {ls : Array Slot} (h : m_XR_becomes σ l1 = some q) (hP : va_P D vwCl (tc_rW ad cA σ) H) (hS : va_S A s.heap H locs) (hl : lv_has ls 2 [(0, .ref (ad 0)), (1, .int l1)]) : W p l e (tc_R 0) s m args below meth c H locs 0 0 (MQ below (tc_Qv D (tc_rW ad cA q) A) args s 0 0 A) (F0 m 0 ls []) := by
  have C0 := C
  obtain ⟨hx, hb, hml, hown, ⟨hK, hN⟩, hr, hlk⟩ := C
  unfold m_XR_becomes at h
  refine lv_aload_n hx hb dXR_becomes_0 rfl (lv_at hl 0 rfl) ?_
  refine lv_iload_n hx hb dXR_becomes_1 rfl (lv_at hl 1 rfl) ?_
  refine lv_sipush (v := 255) hx hb dXR_becomes_2 (by decide) ?_
  refine lv_iand hx hb dXR_becomes_5 ?_
  refine tc_rp8 C0 hJ hP hS (tc_use hN tw_639) dXR_becomes_6 (fun H locs hP hS => ?_)
  refine lv_aload_n hx hb dXR_becomes_9 rfl (lv_at hl 0 rfl) ?_
  refine lv_aload_n hx hb dXR_becomes_10 rfl (lv_at hl 0 rfl) ?_
  refine tc_rg8 C0 hP (tc_use hN tw_639) dXR_becomes_11 ?_
  refine lv_if_ne (tgt := 21) hx hb dXR_becomes_14 (by decide) (fun hc => ?_) (fun hc => ?_)
  · have h := tc_in hc h
    refine lv_iconst (v := 0) hx hb dXR_becomes_21 (by decide) ?_
    exact w_XR_becomes_22 C0 hJ h hP hS (lv_sub hl [] rfl)
  · have h := tc_ip hc h
    refine lv_iconst (v := 1) hx hb dXR_becomes_17 (by decide) ?_
    refine lv_goto (tgt := 22) hx hb dXR_becomes_18 (by decide) ?_
    exact w_XR_becomes_22 C0 hJ h hP hS (lv_sub hl [] rfl)
theorem k_XR_becomes (hJ : ∀ σ, va_D A (tc_rW ad cA σ)) {σ : tc_S} {l1 : Int32} {q : tc_S} (h : m_XR_becomes σ l1 = some q) : Met l yXR_becomes [.code yXR_becomes cXR_becomes 2 none] (tc_R 0) (tc_Pc D cA (tc_rW ad cA σ) [.ref (ad 0), .int l1]) (tc_Qv D (tc_rW ad cA q) A) 0 0 A :=
  tc_met (by decide) (Nat.le_of_ble_eq_true rfl) (fun _ _ _ _ _ _ _ C hP _ hl => w_XR_becomes_0 C hJ h hP va_S.rf hl)
def m_XR_second_294 (σ : tc_S) (k0 k1 : Int32) : Option (Int32 × tc_S) := (some (12, (tc_sf σ 11 ((k1 + k0) &&& 65535))))
set_option maxHeartbeats 4000000 in
set_option maxRecDepth 100000 in
theorem w_XR_second_294 (C : tc_C p s m args meth c RXR cXR_second 4 (some .int) D cA) (hJ : ∀ σ, va_D A (tc_rW ad cA σ)) {q : Int32 × tc_S} {σ : tc_S} {k0 k1 : Int32} {H : Heap} {locs : List Loc} {ls : Array Slot} (h : m_XR_second_294 σ k0 k1 = some q) (hP : va_P D vwCl (tc_rW ad cA σ) H) (hS : va_S A s.heap H locs) (hl : lv_has ls 4 []) : W p l e (tc_R 3) s m args below meth c H locs 0 0 (MQ below (tc_Qi D (tc_rW ad cA q.2) A q.1) args s 0 0 A) (F0 m 294 ls [.int k0, .int k1, .ref (ad 0)]) := by
  have C0 := C
  obtain ⟨hx, hb, hml, hown, ⟨hK, hN⟩, hr, hlk⟩ := C
  unfold m_XR_second_294 at h
  refine lv_iadd hx hb dXR_second_294 ?_
  refine lv_ldc (v := 65535) hx hb hown (tc_use hN tw_807) dXR_second_295 ?_
  refine lv_iand hx hb dXR_second_297 ?_
  refine tc_rp11 C0 hJ hP hS (tc_use hN tw_642) dXR_second_298 (fun H locs hP hS => ?_)
  refine lv_bipush (v := 12) hx hb dXR_second_301 (by decide) ?_
  exact tc_rri C0 hP hS h dXR_second_303
def m_XR_second_241 (σ : tc_S) : Option (Int32 × tc_S) := (some (13, σ))
set_option maxHeartbeats 4000000 in
set_option maxRecDepth 100000 in
theorem w_XR_second_241 (C : tc_C p s m args meth c RXR cXR_second 4 (some .int) D cA) (hJ : ∀ σ, va_D A (tc_rW ad cA σ)) {q : Int32 × tc_S} {σ : tc_S} {H : Heap} {locs : List Loc} {ls : Array Slot} (h : m_XR_second_241 σ = some q) (hP : va_P D vwCl (tc_rW ad cA σ) H) (hS : va_S A s.heap H locs) (hl : lv_has ls 4 []) : W p l e (tc_R 3) s m args below meth c H locs 0 0 (MQ below (tc_Qi D (tc_rW ad cA q.2) A q.1) args s 0 0 A) (F0 m 241 ls []) := by
  have C0 := C
  obtain ⟨hx, hb, hml, hown, ⟨hK, hN⟩, hr, hlk⟩ := C
  unfold m_XR_second_241 at h
  refine lv_bipush (v := 13) hx hb dXR_second_241 (by decide) ?_
  exact tc_rri C0 hP hS h dXR_second_243
def m_XR_second (σ : tc_S) : Option (Int32 × tc_S) := ((m_XR_next σ).bind (fun q1 => (if q1.1 = 32 then ((m_XR_next q1.2).bind (fun q260 => (if (tc_gf q260.2 12) = 0 then (if q260.1 ≤ 127 then (m_XR_second_294 q260.2 q260.1 (tc_gf q260.2 11)) else (m_XR_second_294 q260.2 (q260.1 - 256) (tc_gf q260.2 11))) else (some (7, q260.2))))) else (if q1.1 = 50 then ((m_XR_pair q1.2).bind (fun q217 => (if 32768 ≤ q217.1 then (m_XR_second_241 q217.2) else (tc_gd (q217.1 - q217.1 / 128 * 128) 128 (m_XR_second_241 (tc_sa q217.2 1 (q217.1 - q217.1 / 128 * 128) (tc_gf q217.2 8))))))) else (if q1.1 = 58 then ((m_XR_pair q1.2).bind (fun q247 => ((m_XR_load q247.2 q247.1).bind (fun q250 => (some (13, (tc_sf q250.2 8 q250.1))))))) else (if q1.1 = 60 then ((m_XR_becomes q1.2 ((tc_gf q1.2 8) + 1)).bind (fun q184 => (some (4, q184)))) else (if q1.1 = 61 then ((m_XR_becomes q1.2 ((tc_gf q1.2 8) - 1)).bind (fun q211 => (some (4, q211)))) else (if q1.1 = 62 then ((m_XR_next q1.2).bind (fun q138 => (some (7, (tc_sf q138.2 8 q138.1))))) else (if q1.1 = 71 then (some (4, (tc_sf q1.2 9 (tc_gf q1.2 8)))) else (if q1.1 = 103 then (some (4, (tc_sf q1.2 10 (tc_gf q1.2 8)))) else (if q1.1 = 118 then (some (4, (tc_sf q1.2 13 1))) else (if q1.1 = 120 then (some (4, (tc_sf q1.2 8 (tc_gf q1.2 9)))) else (if q1.1 = 128 then ((m_XR_becomes q1.2 ((tc_gf q1.2 8) + (tc_gf q1.2 9))).bind (fun q199 => (some (4, q199)))) else (if q1.1 = 195 then ((m_XR_pair q1.2).bind (fun q306 => (some (10, (tc_sf q306.2 11 q306.1))))) else (if q1.1 = 201 then (some (10, (tc_sf q1.2 11 (tc_gf q1.2 10)))) else (if q1.1 = 243 then (some (4, (tc_sf q1.2 14 0))) else (if q1.1 = 251 then (some (4, (tc_sf q1.2 14 1))) else (some (4, q1.2)))))))))))))))))))
set_option maxHeartbeats 4000000 in
set_option maxRecDepth 100000 in
theorem w_XR_second_0 (C : tc_C p s m args meth c RXR cXR_second 4 (some .int) D cA) (hJ : ∀ σ, va_D A (tc_rW ad cA σ)) {q : Int32 × tc_S} {σ : tc_S} {H : Heap} {locs : List Loc} {ls : Array Slot} (h : m_XR_second σ = some q) (hP : va_P D vwCl (tc_rW ad cA σ) H) (hS : va_S A s.heap H locs) (hl : lv_has ls 4 [(0, .ref (ad 0))]) : W p l e (tc_R 3) s m args below meth c H locs 0 0 (MQ below (tc_Qi D (tc_rW ad cA q.2) A q.1) args s 0 0 A) (F0 m 0 ls []) := by
  have C0 := C
  obtain ⟨hx, hb, hml, hown, ⟨hK, hN⟩, hr, hlk⟩ := C
  unfold m_XR_second at h
  refine lv_aload_n hx hb dXR_second_0 rfl (lv_at hl 0 rfl) ?_
  obtain ⟨q1, e1, h⟩ := tc_bd_some h
  refine tc_cVi (As := []) (rest := []) C0 (k_XR_next hJ e1) tv_XR_259 (by decide) (by decide) hP hS hl 0 rfl rfl (Nat.le_of_ble_eq_true rfl) dXR_second_1 rfl (fun H locs hP hS => ?_)
  refine lv_istore_n (lv' := [(1, .int q1.1), (0, .ref (ad 0))]) hx hb dXR_second_4 rfl hl (by decide) rfl (fun ls hl => ?_)
  refine lv_iload_n hx hb dXR_second_5 rfl (lv_at hl 0 rfl) ?_
  by_cases hc0 : q1.1 = 32
  · have h := tc_ip hc0 h
    refine lv_lookup (off := 253) (tgt := 259) hx hb dXR_second_6 (by decide) (by rw [hc0]; decide) (by decide) ?_
    refine lv_aload_n hx hb dXR_second_259 rfl (lv_at hl 1 rfl) ?_
    obtain ⟨q260, e260, h⟩ := tc_bd_some h
    refine tc_cVi (As := []) (rest := []) C0 (k_XR_next hJ e260) tv_XR_259 (by decide) (by decide) hP hS hl 0 rfl rfl (Nat.le_of_ble_eq_true rfl) dXR_second_260 rfl (fun H locs hP hS => ?_)
    refine lv_istore_n (lv' := [(3, .int q260.1), (1, .int q1.1), (0, .ref (ad 0))]) hx hb dXR_second_263 rfl hl (by decide) rfl (fun ls hl => ?_)
    refine lv_aload_n hx hb dXR_second_264 rfl (lv_at hl 2 rfl) ?_
    refine tc_rg12 C0 hP (tc_use hN tw_643) dXR_second_265 ?_
    refine lv_if_eq (tgt := 274) hx hb dXR_second_268 (by decide) (fun hc => ?_) (fun hc => ?_)
    · have h := tc_ip hc h
      refine lv_aload_n hx hb dXR_second_274 rfl (lv_at hl 2 rfl) ?_
      refine lv_aload_n hx hb dXR_second_275 rfl (lv_at hl 2 rfl) ?_
      refine tc_rg11 C0 hP (tc_use hN tw_642) dXR_second_276 ?_
      refine lv_iload_n hx hb dXR_second_279 rfl (lv_at hl 0 rfl) ?_
      refine lv_bipush (v := 127) hx hb dXR_second_280 (by decide) ?_
      refine lv_icmp_le (tgt := 293) hx hb dXR_second_282 (by decide) (fun hc => ?_) (fun hc => ?_)
      · have h := tc_ip hc h
        refine lv_iload_n hx hb dXR_second_293 rfl (lv_at hl 0 rfl) ?_
        exact w_XR_second_294 C0 hJ h hP hS (lv_sub hl [] rfl)
      · have h := tc_in hc h
        refine lv_iload_n hx hb dXR_second_285 rfl (lv_at hl 0 rfl) ?_
        refine lv_sipush (v := 256) hx hb dXR_second_286 (by decide) ?_
        refine lv_isub hx hb dXR_second_289 ?_
        refine lv_goto (tgt := 294) hx hb dXR_second_290 (by decide) ?_
        exact w_XR_second_294 C0 hJ h hP hS (lv_sub hl [] rfl)
    · have h := tc_in hc h
      refine lv_bipush (v := 7) hx hb dXR_second_271 (by decide) ?_
      exact tc_rri C0 hP hS h dXR_second_273
  have h := tc_in hc0 h
  by_cases hc1 : q1.1 = 50
  · have h := tc_ip hc1 h
    refine lv_lookup (off := 210) (tgt := 216) hx hb dXR_second_6 (by decide) (by rw [hc1]; decide) (by decide) ?_
    refine lv_aload_n hx hb dXR_second_216 rfl (lv_at hl 1 rfl) ?_
    obtain ⟨q217, e217, h⟩ := tc_bd_some h
    refine tc_cVi (As := []) (rest := []) C0 (k_XR_pair hJ e217) tv_XR_265 (by decide) (by decide) hP hS hl 0 rfl rfl (Nat.le_of_ble_eq_true rfl) dXR_second_217 rfl (fun H locs hP hS => ?_)
    refine lv_istore_n (lv' := [(2, .int q217.1), (1, .int q1.1), (0, .ref (ad 0))]) hx hb dXR_second_220 rfl hl (by decide) rfl (fun ls hl => ?_)
    refine lv_iload_n hx hb dXR_second_221 rfl (lv_at hl 0 rfl) ?_
    refine lv_ldc (v := 32768) hx hb hown (tc_use hN tw_876) dXR_second_222 ?_
    refine lv_icmp_ge (tgt := 241) hx hb dXR_second_224 (by decide) (fun hc => ?_) (fun hc => ?_)
    · have h := tc_ip hc h
      exact w_XR_second_241 C0 hJ h hP hS (lv_sub hl [] rfl)
    · have h := tc_in hc h
      refine lv_aload_n hx hb dXR_second_227 rfl (lv_at hl 2 rfl) ?_
      refine tc_rr_XR_bytes C0 hP (tc_use hN tw_638) dXR_second_228 ?_
      refine lv_iload_n hx hb dXR_second_231 rfl (lv_at hl 0 rfl) ?_
      refine lv_sipush (v := 128) hx hb dXR_second_232 (by decide) ?_
      refine lv_irem hx hb dXR_second_235 (by decide) ?_
      refine lv_aload_n hx hb dXR_second_236 rfl (lv_at hl 2 rfl) ?_
      refine tc_rg8 C0 hP (tc_use hN tw_639) dXR_second_237 ?_
      obtain ⟨hi, h⟩ := tc_gd_some h
      refine tc_rst4 C0 hJ hP hS hi dXR_second_240 (fun H locs hP hS => ?_)
      exact w_XR_second_241 C0 hJ h hP hS (lv_sub hl [] rfl)
  have h := tc_in hc1 h
  by_cases hc2 : q1.1 = 58
  · have h := tc_ip hc2 h
    refine lv_lookup (off := 238) (tgt := 244) hx hb dXR_second_6 (by decide) (by rw [hc2]; decide) (by decide) ?_
    refine lv_aload_n hx hb dXR_second_244 rfl (lv_at hl 1 rfl) ?_
    refine lv_aload_n hx hb dXR_second_245 rfl (lv_at hl 1 rfl) ?_
    refine lv_aload_n hx hb dXR_second_246 rfl (lv_at hl 1 rfl) ?_
    obtain ⟨q247, e247, h⟩ := tc_bd_some h
    refine tc_cVi (As := []) (rest := [.ref (ad 0), .ref (ad 0)]) C0 (k_XR_pair hJ e247) tv_XR_265 (by decide) (by decide) hP hS hl 0 rfl rfl (Nat.le_of_ble_eq_true rfl) dXR_second_247 rfl (fun H locs hP hS => ?_)
    obtain ⟨q250, e250, h⟩ := tc_bd_some h
    refine tc_cVi (As := [.int q247.1]) (rest := [.ref (ad 0)]) C0 (k_XR_load hJ e250) tv_XR_256 (by decide) (by decide) hP hS hl 0 rfl rfl (Nat.le_of_ble_eq_true rfl) dXR_second_250 rfl (fun H locs hP hS => ?_)
    refine tc_rp8 C0 hJ hP hS (tc_use hN tw_639) dXR_second_253 (fun H locs hP hS => ?_)
    refine lv_bipush (v := 13) hx hb dXR_second_256 (by decide) ?_
    exact tc_rri C0 hP hS h dXR_second_258
  have h := tc_in hc2 h
  by_cases hc3 : q1.1 = 60
  · have h := tc_ip hc3 h
    refine lv_lookup (off := 171) (tgt := 177) hx hb dXR_second_6 (by decide) (by rw [hc3]; decide) (by decide) ?_
    refine lv_aload_n hx hb dXR_second_177 rfl (lv_at hl 1 rfl) ?_
    refine lv_aload_n hx hb dXR_second_178 rfl (lv_at hl 1 rfl) ?_
    refine tc_rg8 C0 hP (tc_use hN tw_639) dXR_second_179 ?_
    refine lv_iconst (v := 1) hx hb dXR_second_182 (by decide) ?_
    refine lv_iadd hx hb dXR_second_183 ?_
    obtain ⟨q184, e184, h⟩ := tc_bd_some h
    refine tc_cVv (As := [.int ((tc_gf q1.2 8) + 1)]) (rest := []) C0 (k_XR_becomes hJ e184) tv_XR_262 (by decide) (by decide) hP hS hl 0 rfl rfl (Nat.le_of_ble_eq_true rfl) dXR_second_184 rfl (fun H locs hP hS => ?_)
    refine lv_iconst (v := 4) hx hb dXR_second_187 (by decide) ?_
    exact tc_rri C0 hP hS h dXR_second_188
  have h := tc_in hc3 h
  by_cases hc4 : q1.1 = 61
  · have h := tc_ip hc4 h
    refine lv_lookup (off := 198) (tgt := 204) hx hb dXR_second_6 (by decide) (by rw [hc4]; decide) (by decide) ?_
    refine lv_aload_n hx hb dXR_second_204 rfl (lv_at hl 1 rfl) ?_
    refine lv_aload_n hx hb dXR_second_205 rfl (lv_at hl 1 rfl) ?_
    refine tc_rg8 C0 hP (tc_use hN tw_639) dXR_second_206 ?_
    refine lv_iconst (v := 1) hx hb dXR_second_209 (by decide) ?_
    refine lv_isub hx hb dXR_second_210 ?_
    obtain ⟨q211, e211, h⟩ := tc_bd_some h
    refine tc_cVv (As := [.int ((tc_gf q1.2 8) - 1)]) (rest := []) C0 (k_XR_becomes hJ e211) tv_XR_262 (by decide) (by decide) hP hS hl 0 rfl rfl (Nat.le_of_ble_eq_true rfl) dXR_second_211 rfl (fun H locs hP hS => ?_)
    refine lv_iconst (v := 4) hx hb dXR_second_214 (by decide) ?_
    exact tc_rri C0 hP hS h dXR_second_215
  have h := tc_in hc4 h
  by_cases hc5 : q1.1 = 62
  · have h := tc_ip hc5 h
    refine lv_lookup (off := 130) (tgt := 136) hx hb dXR_second_6 (by decide) (by rw [hc5]; decide) (by decide) ?_
    refine lv_aload_n hx hb dXR_second_136 rfl (lv_at hl 1 rfl) ?_
    refine lv_aload_n hx hb dXR_second_137 rfl (lv_at hl 1 rfl) ?_
    obtain ⟨q138, e138, h⟩ := tc_bd_some h
    refine tc_cVi (As := []) (rest := [.ref (ad 0)]) C0 (k_XR_next hJ e138) tv_XR_259 (by decide) (by decide) hP hS hl 0 rfl rfl (Nat.le_of_ble_eq_true rfl) dXR_second_138 rfl (fun H locs hP hS => ?_)
    refine tc_rp8 C0 hJ hP hS (tc_use hN tw_639) dXR_second_141 (fun H locs hP hS => ?_)
    refine lv_bipush (v := 7) hx hb dXR_second_144 (by decide) ?_
    exact tc_rri C0 hP hS h dXR_second_146
  have h := tc_in hc5 h
  by_cases hc6 : q1.1 = 71
  · have h := tc_ip hc6 h
    refine lv_lookup (off := 141) (tgt := 147) hx hb dXR_second_6 (by decide) (by rw [hc6]; decide) (by decide) ?_
    refine lv_aload_n hx hb dXR_second_147 rfl (lv_at hl 1 rfl) ?_
    refine lv_aload_n hx hb dXR_second_148 rfl (lv_at hl 1 rfl) ?_
    refine tc_rg8 C0 hP (tc_use hN tw_639) dXR_second_149 ?_
    refine tc_rp9 C0 hJ hP hS (tc_use hN tw_640) dXR_second_152 (fun H locs hP hS => ?_)
    refine lv_iconst (v := 4) hx hb dXR_second_155 (by decide) ?_
    exact tc_rri C0 hP hS h dXR_second_156
  have h := tc_in hc6 h
  by_cases hc7 : q1.1 = 103
  · have h := tc_ip hc7 h
    refine lv_lookup (off := 161) (tgt := 167) hx hb dXR_second_6 (by decide) (by rw [hc7]; decide) (by decide) ?_
    refine lv_aload_n hx hb dXR_second_167 rfl (lv_at hl 1 rfl) ?_
    refine lv_aload_n hx hb dXR_second_168 rfl (lv_at hl 1 rfl) ?_
    refine tc_rg8 C0 hP (tc_use hN tw_639) dXR_second_169 ?_
    refine tc_rp10 C0 hJ hP hS (tc_use hN tw_641) dXR_second_172 (fun H locs hP hS => ?_)
    refine lv_iconst (v := 4) hx hb dXR_second_175 (by decide) ?_
    exact tc_rri C0 hP hS h dXR_second_176
  have h := tc_in hc7 h
  by_cases hc8 : q1.1 = 118
  · have h := tc_ip hc8 h
    refine lv_lookup (off := 309) (tgt := 315) hx hb dXR_second_6 (by decide) (by rw [hc8]; decide) (by decide) ?_
    refine lv_aload_n hx hb dXR_second_315 rfl (lv_at hl 1 rfl) ?_
    refine lv_iconst (v := 1) hx hb dXR_second_316 (by decide) ?_
    refine tc_rp13 C0 hJ hP hS (tc_use hN tw_644) ⟨by decide, by decide⟩ dXR_second_317 (fun H locs hP hS => ?_)
    refine lv_iconst (v := 4) hx hb dXR_second_320 (by decide) ?_
    exact tc_rri C0 hP hS h dXR_second_321
  have h := tc_in hc8 h
  by_cases hc9 : q1.1 = 120
  · have h := tc_ip hc9 h
    refine lv_lookup (off := 151) (tgt := 157) hx hb dXR_second_6 (by decide) (by rw [hc9]; decide) (by decide) ?_
    refine lv_aload_n hx hb dXR_second_157 rfl (lv_at hl 1 rfl) ?_
    refine lv_aload_n hx hb dXR_second_158 rfl (lv_at hl 1 rfl) ?_
    refine tc_rg9 C0 hP (tc_use hN tw_640) dXR_second_159 ?_
    refine tc_rp8 C0 hJ hP hS (tc_use hN tw_639) dXR_second_162 (fun H locs hP hS => ?_)
    refine lv_iconst (v := 4) hx hb dXR_second_165 (by decide) ?_
    exact tc_rri C0 hP hS h dXR_second_166
  have h := tc_in hc9 h
  by_cases hc10 : q1.1 = 128
  · have h := tc_ip hc10 h
    refine lv_lookup (off := 183) (tgt := 189) hx hb dXR_second_6 (by decide) (by rw [hc10]; decide) (by decide) ?_
    refine lv_aload_n hx hb dXR_second_189 rfl (lv_at hl 1 rfl) ?_
    refine lv_aload_n hx hb dXR_second_190 rfl (lv_at hl 1 rfl) ?_
    refine tc_rg8 C0 hP (tc_use hN tw_639) dXR_second_191 ?_
    refine lv_aload_n hx hb dXR_second_194 rfl (lv_at hl 1 rfl) ?_
    refine tc_rg9 C0 hP (tc_use hN tw_640) dXR_second_195 ?_
    refine lv_iadd hx hb dXR_second_198 ?_
    obtain ⟨q199, e199, h⟩ := tc_bd_some h
    refine tc_cVv (As := [.int ((tc_gf q1.2 8) + (tc_gf q1.2 9))]) (rest := []) C0 (k_XR_becomes hJ e199) tv_XR_262 (by decide) (by decide) hP hS hl 0 rfl rfl (Nat.le_of_ble_eq_true rfl) dXR_second_199 rfl (fun H locs hP hS => ?_)
    refine lv_iconst (v := 4) hx hb dXR_second_202 (by decide) ?_
    exact tc_rri C0 hP hS h dXR_second_203
  have h := tc_in hc10 h
  by_cases hc11 : q1.1 = 195
  · have h := tc_ip hc11 h
    refine lv_lookup (off := 298) (tgt := 304) hx hb dXR_second_6 (by decide) (by rw [hc11]; decide) (by decide) ?_
    refine lv_aload_n hx hb dXR_second_304 rfl (lv_at hl 1 rfl) ?_
    refine lv_aload_n hx hb dXR_second_305 rfl (lv_at hl 1 rfl) ?_
    obtain ⟨q306, e306, h⟩ := tc_bd_some h
    refine tc_cVi (As := []) (rest := [.ref (ad 0)]) C0 (k_XR_pair hJ e306) tv_XR_265 (by decide) (by decide) hP hS hl 0 rfl rfl (Nat.le_of_ble_eq_true rfl) dXR_second_306 rfl (fun H locs hP hS => ?_)
    refine tc_rp11 C0 hJ hP hS (tc_use hN tw_642) dXR_second_309 (fun H locs hP hS => ?_)
    refine lv_bipush (v := 10) hx hb dXR_second_312 (by decide) ?_
    exact tc_rri C0 hP hS h dXR_second_314
  have h := tc_in hc11 h
  by_cases hc12 : q1.1 = 201
  · have h := tc_ip hc12 h
    refine lv_lookup (off := 330) (tgt := 336) hx hb dXR_second_6 (by decide) (by rw [hc12]; decide) (by decide) ?_
    refine lv_aload_n hx hb dXR_second_336 rfl (lv_at hl 1 rfl) ?_
    refine lv_aload_n hx hb dXR_second_337 rfl (lv_at hl 1 rfl) ?_
    refine tc_rg10 C0 hP (tc_use hN tw_641) dXR_second_338 ?_
    refine tc_rp11 C0 hJ hP hS (tc_use hN tw_642) dXR_second_341 (fun H locs hP hS => ?_)
    refine lv_bipush (v := 10) hx hb dXR_second_344 (by decide) ?_
    exact tc_rri C0 hP hS h dXR_second_346
  have h := tc_in hc12 h
  by_cases hc13 : q1.1 = 243
  · have h := tc_ip hc13 h
    refine lv_lookup (off := 323) (tgt := 329) hx hb dXR_second_6 (by decide) (by rw [hc13]; decide) (by decide) ?_
    refine lv_aload_n hx hb dXR_second_329 rfl (lv_at hl 1 rfl) ?_
    refine lv_iconst (v := 0) hx hb dXR_second_330 (by decide) ?_
    refine tc_rp14 C0 hJ hP hS (tc_use hN tw_645) ⟨by decide, by decide⟩ dXR_second_331 (fun H locs hP hS => ?_)
    refine lv_iconst (v := 4) hx hb dXR_second_334 (by decide) ?_
    exact tc_rri C0 hP hS h dXR_second_335
  have h := tc_in hc13 h
  by_cases hc14 : q1.1 = 251
  · have h := tc_ip hc14 h
    refine lv_lookup (off := 316) (tgt := 322) hx hb dXR_second_6 (by decide) (by rw [hc14]; decide) (by decide) ?_
    refine lv_aload_n hx hb dXR_second_322 rfl (lv_at hl 1 rfl) ?_
    refine lv_iconst (v := 1) hx hb dXR_second_323 (by decide) ?_
    refine tc_rp14 C0 hJ hP hS (tc_use hN tw_645) ⟨by decide, by decide⟩ dXR_second_324 (fun H locs hP hS => ?_)
    refine lv_iconst (v := 4) hx hb dXR_second_327 (by decide) ?_
    exact tc_rri C0 hP hS h dXR_second_328
  have h := tc_in hc14 h
  refine lv_lookup (off := 341) (tgt := 347) hx hb dXR_second_6 (by decide) (by show Op.lookupswitch.offset [(32, 253), (50, 210), (58, 238), (60, 171), (61, 198), (62, 130), (71, 141), (103, 161), (118, 309), (120, 151), (128, 183), (195, 298), (201, 330), (243, 323), (251, 316)] _ _ = _; rw [lv_osw (a := 32) hc0 (by decide), lv_osw (a := 50) hc1 (by decide), lv_osw (a := 58) hc2 (by decide), lv_osw (a := 60) hc3 (by decide), lv_osw (a := 61) hc4 (by decide), lv_osw (a := 62) hc5 (by decide), lv_osw (a := 71) hc6 (by decide), lv_osw (a := 103) hc7 (by decide), lv_osw (a := 118) hc8 (by decide), lv_osw (a := 120) hc9 (by decide), lv_osw (a := 128) hc10 (by decide), lv_osw (a := 195) hc11 (by decide), lv_osw (a := 201) hc12 (by decide), lv_osw (a := 243) hc13 (by decide), lv_osw (a := 251) hc14 (by decide)]; rfl) (by decide) ?_
  refine lv_iconst (v := 4) hx hb dXR_second_347 (by decide) ?_
  exact tc_rri C0 hP hS h dXR_second_348
theorem k_XR_second (hJ : ∀ σ, va_D A (tc_rW ad cA σ)) {σ : tc_S} {q : Int32 × tc_S} (h : m_XR_second σ = some q) : Met l yXR_second [.code yXR_second cXR_second 4 (some .int)] (tc_R 3) (tc_Pc D cA (tc_rW ad cA σ) [.ref (ad 0)]) (tc_Qi D (tc_rW ad cA q.2) A q.1) 0 0 A :=
  tc_met (by decide) (Nat.le_of_ble_eq_true rfl) (fun _ _ _ _ _ _ _ C hP _ hl => w_XR_second_0 C hJ h hP va_S.rf hl)
def m_XR_give_45 (Z : tc_S → Option (tc_S)) (σ : tc_S) (k0 : Int32) : Option (tc_S) := (Z (tc_sf σ 17 ((tc_gf σ 17) - (k0 + (tc_gf σ 35)))))
set_option maxHeartbeats 4000000 in
set_option maxRecDepth 100000 in
theorem w_XR_give_45 (C : tc_C p s m args meth c RXR cXR_give 3 none D cA) (hJ : ∀ σ, va_D A (tc_rW ad cA σ)) {q : tc_S} {Z : tc_S → Option (tc_S)} (hZ : ∀ {σ : tc_S} {H : Heap} {locs : List Loc} {ls : Array Slot}, Z σ = some q → va_P D vwCl (tc_rW ad cA σ) H → va_S A s.heap H locs → lv_has ls 3 [(0, .ref (ad 0))] → W p l e (tc_R 4) s m args below meth c H locs 0 0 (MQ below (tc_Qv D (tc_rW ad cA q) A) args s 0 0 A) (F0 m 18 ls [])) {σ : tc_S} {k0 : Int32} {H : Heap} {locs : List Loc} {ls : Array Slot} (h : m_XR_give_45 Z σ k0 = some q) (hP : va_P D vwCl (tc_rW ad cA σ) H) (hS : va_S A s.heap H locs) (hl : lv_has ls 3 [(0, .ref (ad 0))]) : W p l e (tc_R 4) s m args below meth c H locs 0 0 (MQ below (tc_Qv D (tc_rW ad cA q) A) args s 0 0 A) (F0 m 45 ls [.int k0]) := by
  have C0 := C
  obtain ⟨hx, hb, hml, hown, ⟨hK, hN⟩, hr, hlk⟩ := C
  unfold m_XR_give_45 at h
  refine lv_istore_n (lv' := [(2, .int k0), (0, .ref (ad 0))]) hx hb dXR_give_45 rfl hl (by decide) rfl (fun ls hl => ?_)
  refine lv_aload_n hx hb dXR_give_46 rfl (lv_at hl 1 rfl) ?_
  refine lv_dup hx hb dXR_give_47 rfl ?_
  refine tc_rg17 C0 hP (tc_use hN tw_648) dXR_give_48 ?_
  refine lv_iload_n hx hb dXR_give_51 rfl (lv_at hl 0 rfl) ?_
  refine lv_aload_n hx hb dXR_give_52 rfl (lv_at hl 1 rfl) ?_
  refine tc_rg35 C0 hP (tc_use hN tw_649) dXR_give_53 ?_
  refine lv_iadd hx hb dXR_give_56 ?_
  refine lv_isub hx hb dXR_give_57 ?_
  refine tc_rp17 C0 hJ hP hS (tc_use hN tw_648) dXR_give_58 (fun H locs hP hS => ?_)
  refine lv_goto (tgt := 18) hx hb dXR_give_61 (by decide) ?_
  exact hZ h hP hS (lv_sub hl [1] rfl)
def m_XR_give_18 : Nat → tc_S → Option (tc_S)
  | 0, _ => none
  | n + 1, σ => (if (tc_gf σ 17) ≤ 0 then (some σ) else (if (tc_gf (tc_sf σ 35 0) 13) = 0 then ((m_XR_second (tc_sf σ 35 0)).bind (fun q42 => (m_XR_give_45 (m_XR_give_18 n) q42.2 q42.1))) else (m_XR_give_45 (m_XR_give_18 n) (tc_sf σ 35 0) 4)))
set_option maxHeartbeats 4000000 in
set_option maxRecDepth 100000 in
theorem w_XR_give_18 (C : tc_C p s m args meth c RXR cXR_give 3 none D cA) (hJ : ∀ σ, va_D A (tc_rW ad cA σ)) {q : tc_S} : ∀ (n : Nat) {σ : tc_S} {H : Heap} {locs : List Loc} {ls : Array Slot} (h : m_XR_give_18 n σ = some q) (hP : va_P D vwCl (tc_rW ad cA σ) H) (hS : va_S A s.heap H locs) (hl : lv_has ls 3 [(0, .ref (ad 0))]), W p l e (tc_R 4) s m args below meth c H locs 0 0 (MQ below (tc_Qv D (tc_rW ad cA q) A) args s 0 0 A) (F0 m 18 ls []) := by
  have C0 := C
  obtain ⟨hx, hb, hml, hown, ⟨hK, hN⟩, hr, hlk⟩ := C
  intro n
  induction n with
  | zero =>
    intro σ  H locs ls h hP hS hl
    exact absurd h (by simp [m_XR_give_18])
  | succ n ih =>
    intro σ  H locs ls h hP hS hl
    unfold m_XR_give_18 at h
    refine lv_aload_n hx hb dXR_give_18 rfl (lv_at hl 0 rfl) ?_
    refine tc_rg17 C0 hP (tc_use hN tw_648) dXR_give_19 ?_
    refine lv_if_le (tgt := 64) hx hb dXR_give_22 (by decide) (fun hc => ?_) (fun hc => ?_)
    · have h := tc_ip hc h
      exact tc_rrv C0 hP hS h dXR_give_64
    · have h := tc_in hc h
      refine lv_aload_n hx hb dXR_give_25 rfl (lv_at hl 0 rfl) ?_
      refine lv_iconst (v := 0) hx hb dXR_give_26 (by decide) ?_
      refine tc_rp35 C0 hJ hP hS (tc_use hN tw_649) dXR_give_27 (fun H locs hP hS => ?_)
      refine lv_aload_n hx hb dXR_give_30 rfl (lv_at hl 0 rfl) ?_
      refine tc_rg13 C0 hP (tc_use hN tw_644) dXR_give_31 ?_
      refine lv_if_eq (tgt := 41) hx hb dXR_give_34 (by decide) (fun hc => ?_) (fun hc => ?_)
      · have h := tc_ip hc h
        refine lv_aload_n hx hb dXR_give_41 rfl (lv_at hl 0 rfl) ?_
        obtain ⟨q42, e42, h⟩ := tc_bd_some h
        refine tc_cVi (As := []) (rest := []) C0 (k_XR_second hJ e42) tv_XR_268 (by decide) (by decide) hP hS hl 0 rfl rfl (Nat.le_of_ble_eq_true rfl) dXR_give_42 rfl (fun H locs hP hS => ?_)
        exact w_XR_give_45 C0 hJ (fun h hP hS hl => ih h hP hS hl) h hP hS (lv_sub hl [0] rfl)
      · have h := tc_in hc h
        refine lv_iconst (v := 4) hx hb dXR_give_37 (by decide) ?_
        refine lv_goto (tgt := 45) hx hb dXR_give_38 (by decide) ?_
        exact w_XR_give_45 C0 hJ (fun h hP hS hl => ih h hP hS hl) h hP hS (lv_sub hl [0] rfl)
def m_XR_give (σ : tc_S) (l1 : Int32) : Option (tc_S) := ((m_XR_isOut σ).bind (fun q1 => (if q1.1 = 0 then (m_XR_give_18 2000 (tc_sf q1.2 17 ((tc_gf q1.2 17) + l1))) else (some q1.2))))
set_option maxHeartbeats 4000000 in
set_option maxRecDepth 100000 in
theorem w_XR_give_0 (C : tc_C p s m args meth c RXR cXR_give 3 none D cA) (hJ : ∀ σ, va_D A (tc_rW ad cA σ)) {q : tc_S} {σ : tc_S} {l1 : Int32} {H : Heap} {locs : List Loc} {ls : Array Slot} (h : m_XR_give σ l1 = some q) (hP : va_P D vwCl (tc_rW ad cA σ) H) (hS : va_S A s.heap H locs) (hl : lv_has ls 3 [(0, .ref (ad 0)), (1, .int l1)]) : W p l e (tc_R 4) s m args below meth c H locs 0 0 (MQ below (tc_Qv D (tc_rW ad cA q) A) args s 0 0 A) (F0 m 0 ls []) := by
  have C0 := C
  obtain ⟨hx, hb, hml, hown, ⟨hK, hN⟩, hr, hlk⟩ := C
  unfold m_XR_give at h
  refine lv_aload_n hx hb dXR_give_0 rfl (lv_at hl 0 rfl) ?_
  obtain ⟨q1, e1, h⟩ := tc_bd_some h
  refine tc_cVi (As := []) (rest := []) C0 (k_XR_isOut hJ e1) tv_XR_47 (by decide) (by decide) hP hS hl 0 rfl rfl (Nat.le_of_ble_eq_true rfl) dXR_give_1 rfl (fun H locs hP hS => ?_)
  refine lv_if_eq (tgt := 8) hx hb dXR_give_4 (by decide) (fun hc => ?_) (fun hc => ?_)
  · have h := tc_ip hc h
    refine lv_aload_n hx hb dXR_give_8 rfl (lv_at hl 0 rfl) ?_
    refine lv_dup hx hb dXR_give_9 rfl ?_
    refine tc_rg17 C0 hP (tc_use hN tw_648) dXR_give_10 ?_
    refine lv_iload_n hx hb dXR_give_13 rfl (lv_at hl 1 rfl) ?_
    refine lv_iadd hx hb dXR_give_14 ?_
    refine tc_rp17 C0 hJ hP hS (tc_use hN tw_648) dXR_give_15 (fun H locs hP hS => ?_)
    exact w_XR_give_18 C0 hJ _ h hP hS (lv_sub hl [0] rfl)
  · have h := tc_in hc h
    exact tc_rrv C0 hP hS h dXR_give_7
theorem k_XR_give (hJ : ∀ σ, va_D A (tc_rW ad cA σ)) {σ : tc_S} {l1 : Int32} {q : tc_S} (h : m_XR_give σ l1 = some q) : Met l yXR_give [.code yXR_give cXR_give 3 none] (tc_R 4) (tc_Pc D cA (tc_rW ad cA σ) [.ref (ad 0), .int l1]) (tc_Qv D (tc_rW ad cA q) A) 0 0 A :=
  tc_met (by decide) (Nat.le_of_ble_eq_true rfl) (fun _ _ _ _ _ _ _ C hP _ hl => w_XR_give_0 C hJ h hP va_S.rf hl)
def m_XR_tellSecond_14 (σ : tc_S) : Option (tc_S) := (some σ)
set_option maxHeartbeats 4000000 in
set_option maxRecDepth 100000 in
theorem w_XR_tellSecond_14 (C : tc_C p s m args meth c RXR cXR_tellSecond 1 none D cA) (hJ : ∀ σ, va_D A (tc_rW ad cA σ)) {q : tc_S} {σ : tc_S} {H : Heap} {locs : List Loc} {ls : Array Slot} (h : m_XR_tellSecond_14 σ = some q) (hP : va_P D vwCl (tc_rW ad cA σ) H) (hS : va_S A s.heap H locs) (hl : lv_has ls 1 []) : W p l e (tc_R 1) s m args below meth c H locs 0 0 (MQ below (tc_Qv D (tc_rW ad cA q) A) args s 0 0 A) (F0 m 14 ls []) := by
  have C0 := C
  obtain ⟨hx, hb, hml, hown, ⟨hK, hN⟩, hr, hlk⟩ := C
  unfold m_XR_tellSecond_14 at h
  exact tc_rrv C0 hP hS h dXR_tellSecond_14
def m_XR_tellSecond (σ : tc_S) : Option (tc_S) := ((m_XR_isOut σ).bind (fun q1 => (if q1.1 = 0 then (if (tc_gf q1.2 14) = 0 then (m_XR_tellSecond_14 q1.2) else (some (tc_sf (tc_sf (tc_sf (tc_sf (tc_sf q1.2 10 ((tc_gf q1.2 11) &&& 255)) 11 56) 14 0) 13 0) 17 ((tc_gf (tc_sf (tc_sf (tc_sf (tc_sf q1.2 10 ((tc_gf q1.2 11) &&& 255)) 11 56) 14 0) 13 0) 17) - 13)))) else (m_XR_tellSecond_14 q1.2))))
set_option maxHeartbeats 4000000 in
set_option maxRecDepth 100000 in
theorem w_XR_tellSecond_0 (C : tc_C p s m args meth c RXR cXR_tellSecond 1 none D cA) (hJ : ∀ σ, va_D A (tc_rW ad cA σ)) {q : tc_S} {σ : tc_S} {H : Heap} {locs : List Loc} {ls : Array Slot} (h : m_XR_tellSecond σ = some q) (hP : va_P D vwCl (tc_rW ad cA σ) H) (hS : va_S A s.heap H locs) (hl : lv_has ls 1 [(0, .ref (ad 0))]) : W p l e (tc_R 1) s m args below meth c H locs 0 0 (MQ below (tc_Qv D (tc_rW ad cA q) A) args s 0 0 A) (F0 m 0 ls []) := by
  have C0 := C
  obtain ⟨hx, hb, hml, hown, ⟨hK, hN⟩, hr, hlk⟩ := C
  unfold m_XR_tellSecond at h
  refine lv_aload_n hx hb dXR_tellSecond_0 rfl (lv_at hl 0 rfl) ?_
  obtain ⟨q1, e1, h⟩ := tc_bd_some h
  refine tc_cVi (As := []) (rest := []) C0 (k_XR_isOut hJ e1) tv_XR_47 (by decide) (by decide) hP hS hl 0 rfl rfl (Nat.le_of_ble_eq_true rfl) dXR_tellSecond_1 rfl (fun H locs hP hS => ?_)
  refine lv_if_ne (tgt := 14) hx hb dXR_tellSecond_4 (by decide) (fun hc => ?_) (fun hc => ?_)
  · have h := tc_in hc h
    exact w_XR_tellSecond_14 C0 hJ h hP hS (lv_sub hl [] rfl)
  · have h := tc_ip hc h
    refine lv_aload_n hx hb dXR_tellSecond_7 rfl (lv_at hl 0 rfl) ?_
    refine tc_rg14 C0 hP (tc_use hN tw_645) dXR_tellSecond_8 ?_
    refine lv_if_ne (tgt := 15) hx hb dXR_tellSecond_11 (by decide) (fun hc => ?_) (fun hc => ?_)
    · have h := tc_in hc h
      refine lv_aload_n hx hb dXR_tellSecond_15 rfl (lv_at hl 0 rfl) ?_
      refine lv_aload_n hx hb dXR_tellSecond_16 rfl (lv_at hl 0 rfl) ?_
      refine tc_rg11 C0 hP (tc_use hN tw_642) dXR_tellSecond_17 ?_
      refine lv_sipush (v := 255) hx hb dXR_tellSecond_20 (by decide) ?_
      refine lv_iand hx hb dXR_tellSecond_23 ?_
      refine tc_rp10 C0 hJ hP hS (tc_use hN tw_641) dXR_tellSecond_24 (fun H locs hP hS => ?_)
      refine lv_aload_n hx hb dXR_tellSecond_27 rfl (lv_at hl 0 rfl) ?_
      refine lv_bipush (v := 56) hx hb dXR_tellSecond_28 (by decide) ?_
      refine tc_rp11 C0 hJ hP hS (tc_use hN tw_642) dXR_tellSecond_30 (fun H locs hP hS => ?_)
      refine lv_aload_n hx hb dXR_tellSecond_33 rfl (lv_at hl 0 rfl) ?_
      refine lv_iconst (v := 0) hx hb dXR_tellSecond_34 (by decide) ?_
      refine tc_rp14 C0 hJ hP hS (tc_use hN tw_645) ⟨by decide, by decide⟩ dXR_tellSecond_35 (fun H locs hP hS => ?_)
      refine lv_aload_n hx hb dXR_tellSecond_38 rfl (lv_at hl 0 rfl) ?_
      refine lv_iconst (v := 0) hx hb dXR_tellSecond_39 (by decide) ?_
      refine tc_rp13 C0 hJ hP hS (tc_use hN tw_644) ⟨by decide, by decide⟩ dXR_tellSecond_40 (fun H locs hP hS => ?_)
      refine lv_aload_n hx hb dXR_tellSecond_43 rfl (lv_at hl 0 rfl) ?_
      refine lv_dup hx hb dXR_tellSecond_44 rfl ?_
      refine tc_rg17 C0 hP (tc_use hN tw_648) dXR_tellSecond_45 ?_
      refine lv_bipush (v := 13) hx hb dXR_tellSecond_48 (by decide) ?_
      refine lv_isub hx hb dXR_tellSecond_50 ?_
      refine tc_rp17 C0 hJ hP hS (tc_use hN tw_648) dXR_tellSecond_51 (fun H locs hP hS => ?_)
      exact tc_rrv C0 hP hS h dXR_tellSecond_54
    · have h := tc_ip hc h
      exact w_XR_tellSecond_14 C0 hJ h hP hS (lv_sub hl [] rfl)
theorem k_XR_tellSecond (hJ : ∀ σ, va_D A (tc_rW ad cA σ)) {σ : tc_S} {q : tc_S} (h : m_XR_tellSecond σ = some q) : Met l yXR_tellSecond [.code yXR_tellSecond cXR_tellSecond 1 none] (tc_R 1) (tc_Pc D cA (tc_rW ad cA σ) [.ref (ad 0)]) (tc_Qv D (tc_rW ad cA q) A) 0 0 A :=
  tc_met (by decide) (Nat.le_of_ble_eq_true rfl) (fun _ _ _ _ _ _ _ C hP _ hl => w_XR_tellSecond_0 C hJ h hP va_S.rf hl)
def m_XR_spriteWord (σ : tc_S) (l1 l2 : Int32) : Option (Int32 × tc_S) := (tc_gd 5 16 ((m_XR_vramWord σ ((((((tc_ga σ 5 5) &&& 15) * 32) + (4 * l1)) + l2) - (((((tc_ga σ 5 5) &&& 15) * 32) + (4 * l1)) + l2) / 512 * 512)).bind (fun q23 => (some (q23.1, q23.2)))))
set_option maxHeartbeats 4000000 in
set_option maxRecDepth 100000 in
theorem w_XR_spriteWord_0 (C : tc_C p s m args meth c RXR cXR_spriteWord 3 (some .int) D cA) (hJ : ∀ σ, va_D A (tc_rW ad cA σ)) {q : Int32 × tc_S} {σ : tc_S} {l1 l2 : Int32} {H : Heap} {locs : List Loc} {ls : Array Slot} (h : m_XR_spriteWord σ l1 l2 = some q) (hP : va_P D vwCl (tc_rW ad cA σ) H) (hS : va_S A s.heap H locs) (hl : lv_has ls 3 [(0, .ref (ad 0)), (1, .int l1), (2, .int l2)]) : W p l e (tc_R 1) s m args below meth c H locs 0 0 (MQ below (tc_Qi D (tc_rW ad cA q.2) A q.1) args s 0 0 A) (F0 m 0 ls []) := by
  have C0 := C
  obtain ⟨hx, hb, hml, hown, ⟨hK, hN⟩, hr, hlk⟩ := C
  unfold m_XR_spriteWord at h
  refine lv_aload_n hx hb dXR_spriteWord_0 rfl (lv_at hl 0 rfl) ?_
  refine lv_aload_n hx hb dXR_spriteWord_1 rfl (lv_at hl 0 rfl) ?_
  refine tc_rr_XR_regs C0 hP (tc_use hN tw_653) dXR_spriteWord_2 ?_
  refine lv_iconst (v := 5) hx hb dXR_spriteWord_5 (by decide) ?_
  obtain ⟨hi, h⟩ := tc_gd_some h
  refine tc_rld8 C0 hP hi dXR_spriteWord_6 ?_
  refine lv_bipush (v := 15) hx hb dXR_spriteWord_7 (by decide) ?_
  refine lv_iand hx hb dXR_spriteWord_9 ?_
  refine lv_bipush (v := 32) hx hb dXR_spriteWord_10 (by decide) ?_
  refine lv_imul hx hb dXR_spriteWord_12 ?_
  refine lv_iconst (v := 4) hx hb dXR_spriteWord_13 (by decide) ?_
  refine lv_iload_n hx hb dXR_spriteWord_14 rfl (lv_at hl 1 rfl) ?_
  refine lv_imul hx hb dXR_spriteWord_15 ?_
  refine lv_iadd hx hb dXR_spriteWord_16 ?_
  refine lv_iload_n hx hb dXR_spriteWord_17 rfl (lv_at hl 2 rfl) ?_
  refine lv_iadd hx hb dXR_spriteWord_18 ?_
  refine lv_sipush (v := 512) hx hb dXR_spriteWord_19 (by decide) ?_
  refine lv_irem hx hb dXR_spriteWord_22 (by decide) ?_
  obtain ⟨q23, e23, h⟩ := tc_bd_some h
  refine tc_cVi (As := [.int ((((((tc_ga σ 5 5) &&& 15) * 32) + (4 * l1)) + l2) - (((((tc_ga σ 5 5) &&& 15) * 32) + (4 * l1)) + l2) / 512 * 512)]) (rest := []) C0 (k_XR_vramWord hJ e23) tv_XR_135 (by decide) (by decide) hP hS hl 0 rfl rfl (Nat.le_of_ble_eq_true rfl) dXR_spriteWord_23 rfl (fun H locs hP hS => ?_)
  exact tc_rri C0 hP hS h dXR_spriteWord_26
theorem k_XR_spriteWord (hJ : ∀ σ, va_D A (tc_rW ad cA σ)) {σ : tc_S} {l1 l2 : Int32} {q : Int32 × tc_S} (h : m_XR_spriteWord σ l1 l2 = some q) : Met l yXR_spriteWord [.code yXR_spriteWord cXR_spriteWord 3 (some .int)] (tc_R 1) (tc_Pc D cA (tc_rW ad cA σ) [.ref (ad 0), .int l1, .int l2]) (tc_Qi D (tc_rW ad cA q.2) A q.1) 0 0 A :=
  tc_met (by decide) (Nat.le_of_ble_eq_true rfl) (fun _ _ _ _ _ _ _ C hP _ hl => w_XR_spriteWord_0 C hJ h hP va_S.rf hl)
def m_XR_patternPixel_85 (σ : tc_S) (k0 : Int32) : Option (Int32 × tc_S) := (some (k0, σ))
set_option maxHeartbeats 4000000 in
set_option maxRecDepth 100000 in
theorem w_XR_patternPixel_85 (C : tc_C p s m args meth c RXR cXR_patternPixel 7 (some .int) D cA) (hJ : ∀ σ, va_D A (tc_rW ad cA σ)) {q : Int32 × tc_S} {σ : tc_S} {k0 : Int32} {H : Heap} {locs : List Loc} {ls : Array Slot} (h : m_XR_patternPixel_85 σ k0 = some q) (hP : va_P D vwCl (tc_rW ad cA σ) H) (hS : va_S A s.heap H locs) (hl : lv_has ls 7 []) : W p l e (tc_R 1) s m args below meth c H locs 0 0 (MQ below (tc_Qi D (tc_rW ad cA q.2) A q.1) args s 0 0 A) (F0 m 85 ls [.int k0]) := by
  have C0 := C
  obtain ⟨hx, hb, hml, hown, ⟨hK, hN⟩, hr, hlk⟩ := C
  unfold m_XR_patternPixel_85 at h
  exact tc_rri C0 hP hS h dXR_patternPixel_85
def m_XR_patternPixel_36 (σ : tc_S) (l1 l4 k0 : Int32) : Option (Int32 × tc_S) := ((m_XR_vramWord σ ((4 * (l1 &&& 127)) + k0)).bind (fun q48 => (if ((q48.1 >>> ((12 - (4 * l4)) &&& 31)) &&& 15) = 0 then (m_XR_patternPixel_85 q48.2 0) else (m_XR_patternPixel_85 q48.2 (((q48.1 >>> ((12 - (4 * l4)) &&& 31)) &&& 15) + (((l1 >>> ((15 : Int32) &&& 31)) &&& 1) * 16))))))
set_option maxHeartbeats 4000000 in
set_option maxRecDepth 100000 in
theorem w_XR_patternPixel_36 (C : tc_C p s m args meth c RXR cXR_patternPixel 7 (some .int) D cA) (hJ : ∀ σ, va_D A (tc_rW ad cA σ)) {q : Int32 × tc_S} {σ : tc_S} {l1 l4 k0 : Int32} {H : Heap} {locs : List Loc} {ls : Array Slot} (h : m_XR_patternPixel_36 σ l1 l4 k0 = some q) (hP : va_P D vwCl (tc_rW ad cA σ) H) (hS : va_S A s.heap H locs) (hl : lv_has ls 7 [(0, .ref (ad 0)), (1, .int l1), (4, .int l4)]) : W p l e (tc_R 1) s m args below meth c H locs 0 0 (MQ below (tc_Qi D (tc_rW ad cA q.2) A q.1) args s 0 0 A) (F0 m 36 ls [.int k0]) := by
  have C0 := C
  obtain ⟨hx, hb, hml, hown, ⟨hK, hN⟩, hr, hlk⟩ := C
  unfold m_XR_patternPixel_36 at h
  refine lv_istore (lv' := [(5, .int k0), (0, .ref (ad 0)), (1, .int l1), (4, .int l4)]) hx hb dXR_patternPixel_36 hl (by decide) rfl (fun ls hl => ?_)
  refine lv_aload_n hx hb dXR_patternPixel_38 rfl (lv_at hl 1 rfl) ?_
  refine lv_iconst (v := 4) hx hb dXR_patternPixel_39 (by decide) ?_
  refine lv_iload_n hx hb dXR_patternPixel_40 rfl (lv_at hl 2 rfl) ?_
  refine lv_bipush (v := 127) hx hb dXR_patternPixel_41 (by decide) ?_
  refine lv_iand hx hb dXR_patternPixel_43 ?_
  refine lv_imul hx hb dXR_patternPixel_44 ?_
  refine lv_iload hx hb dXR_patternPixel_45 (lv_at hl 0 rfl) ?_
  refine lv_iadd hx hb dXR_patternPixel_47 ?_
  obtain ⟨q48, e48, h⟩ := tc_bd_some h
  refine tc_cVi (As := [.int ((4 * (l1 &&& 127)) + k0)]) (rest := []) C0 (k_XR_vramWord hJ e48) tv_XR_135 (by decide) (by decide) hP hS hl 0 rfl rfl (Nat.le_of_ble_eq_true rfl) dXR_patternPixel_48 rfl (fun H locs hP hS => ?_)
  refine lv_bipush (v := 12) hx hb dXR_patternPixel_51 (by decide) ?_
  refine lv_iconst (v := 4) hx hb dXR_patternPixel_53 (by decide) ?_
  refine lv_iload hx hb dXR_patternPixel_54 (lv_at hl 3 rfl) ?_
  refine lv_imul hx hb dXR_patternPixel_56 ?_
  refine lv_isub hx hb dXR_patternPixel_57 ?_
  refine lv_ishr hx hb dXR_patternPixel_58 ?_
  refine lv_bipush (v := 15) hx hb dXR_patternPixel_59 (by decide) ?_
  refine lv_iand hx hb dXR_patternPixel_61 ?_
  refine lv_istore (lv' := [(6, .int ((q48.1 >>> ((12 - (4 * l4)) &&& 31)) &&& 15)), (5, .int k0), (0, .ref (ad 0)), (1, .int l1), (4, .int l4)]) hx hb dXR_patternPixel_62 hl (by decide) rfl (fun ls hl => ?_)
  refine lv_iload hx hb dXR_patternPixel_64 (lv_at hl 0 rfl) ?_
  refine lv_if_ne (tgt := 73) hx hb dXR_patternPixel_66 (by decide) (fun hc => ?_) (fun hc => ?_)
  · have h := tc_in hc h
    refine lv_iload hx hb dXR_patternPixel_73 (lv_at hl 0 rfl) ?_
    refine lv_iload_n hx hb dXR_patternPixel_75 rfl (lv_at hl 3 rfl) ?_
    refine lv_bipush (v := 15) hx hb dXR_patternPixel_76 (by decide) ?_
    refine lv_ishr hx hb dXR_patternPixel_78 ?_
    refine lv_iconst (v := 1) hx hb dXR_patternPixel_79 (by decide) ?_
    refine lv_iand hx hb dXR_patternPixel_80 ?_
    refine lv_bipush (v := 16) hx hb dXR_patternPixel_81 (by decide) ?_
    refine lv_imul hx hb dXR_patternPixel_83 ?_
    refine lv_iadd hx hb dXR_patternPixel_84 ?_
    exact w_XR_patternPixel_85 C0 hJ h hP hS (lv_sub hl [] rfl)
  · have h := tc_ip hc h
    refine lv_iconst (v := 0) hx hb dXR_patternPixel_69 (by decide) ?_
    refine lv_goto (tgt := 85) hx hb dXR_patternPixel_70 (by decide) ?_
    exact w_XR_patternPixel_85 C0 hJ h hP hS (lv_sub hl [] rfl)
def m_XR_patternPixel_17 (σ : tc_S) (l1 l3 k0 : Int32) : Option (Int32 × tc_S) := (if ((l1 >>> ((12 : Int32) &&& 31)) &&& 1) = 1 then (m_XR_patternPixel_36 σ l1 k0 (3 - l3)) else (m_XR_patternPixel_36 σ l1 k0 l3))
set_option maxHeartbeats 4000000 in
set_option maxRecDepth 100000 in
theorem w_XR_patternPixel_17 (C : tc_C p s m args meth c RXR cXR_patternPixel 7 (some .int) D cA) (hJ : ∀ σ, va_D A (tc_rW ad cA σ)) {q : Int32 × tc_S} {σ : tc_S} {l1 l3 k0 : Int32} {H : Heap} {locs : List Loc} {ls : Array Slot} (h : m_XR_patternPixel_17 σ l1 l3 k0 = some q) (hP : va_P D vwCl (tc_rW ad cA σ) H) (hS : va_S A s.heap H locs) (hl : lv_has ls 7 [(0, .ref (ad 0)), (1, .int l1), (3, .int l3)]) : W p l e (tc_R 1) s m args below meth c H locs 0 0 (MQ below (tc_Qi D (tc_rW ad cA q.2) A q.1) args s 0 0 A) (F0 m 17 ls [.int k0]) := by
  have C0 := C
  obtain ⟨hx, hb, hml, hown, ⟨hK, hN⟩, hr, hlk⟩ := C
  unfold m_XR_patternPixel_17 at h
  refine lv_istore (lv' := [(4, .int k0), (0, .ref (ad 0)), (1, .int l1), (3, .int l3)]) hx hb dXR_patternPixel_17 hl (by decide) rfl (fun ls hl => ?_)
  refine lv_iload_n hx hb dXR_patternPixel_19 rfl (lv_at hl 2 rfl) ?_
  refine lv_bipush (v := 12) hx hb dXR_patternPixel_20 (by decide) ?_
  refine lv_ishr hx hb dXR_patternPixel_22 ?_
  refine lv_iconst (v := 1) hx hb dXR_patternPixel_23 (by decide) ?_
  refine lv_iand hx hb dXR_patternPixel_24 ?_
  refine lv_iconst (v := 1) hx hb dXR_patternPixel_25 (by decide) ?_
  refine lv_icmp_ne (tgt := 35) hx hb dXR_patternPixel_26 (by decide) (fun hc => ?_) (fun hc => ?_)
  · have h := tc_in hc h
    refine lv_iload_n hx hb dXR_patternPixel_35 rfl (lv_at hl 3 rfl) ?_
    exact w_XR_patternPixel_36 C0 hJ h hP hS (lv_sub hl [1, 2, 0] rfl)
  · have h := tc_ip hc h
    refine lv_iconst (v := 3) hx hb dXR_patternPixel_29 (by decide) ?_
    refine lv_iload_n hx hb dXR_patternPixel_30 rfl (lv_at hl 3 rfl) ?_
    refine lv_isub hx hb dXR_patternPixel_31 ?_
    refine lv_goto (tgt := 36) hx hb dXR_patternPixel_32 (by decide) ?_
    exact w_XR_patternPixel_36 C0 hJ h hP hS (lv_sub hl [1, 2, 0] rfl)
def m_XR_patternPixel (σ : tc_S) (l1 l2 l3 : Int32) : Option (Int32 × tc_S) := (if ((l1 >>> ((11 : Int32) &&& 31)) &&& 1) = 1 then (m_XR_patternPixel_17 σ l1 l3 (3 - l2)) else (m_XR_patternPixel_17 σ l1 l3 l2))
set_option maxHeartbeats 4000000 in
set_option maxRecDepth 100000 in
theorem w_XR_patternPixel_0 (C : tc_C p s m args meth c RXR cXR_patternPixel 7 (some .int) D cA) (hJ : ∀ σ, va_D A (tc_rW ad cA σ)) {q : Int32 × tc_S} {σ : tc_S} {l1 l2 l3 : Int32} {H : Heap} {locs : List Loc} {ls : Array Slot} (h : m_XR_patternPixel σ l1 l2 l3 = some q) (hP : va_P D vwCl (tc_rW ad cA σ) H) (hS : va_S A s.heap H locs) (hl : lv_has ls 7 [(0, .ref (ad 0)), (1, .int l1), (2, .int l2), (3, .int l3)]) : W p l e (tc_R 1) s m args below meth c H locs 0 0 (MQ below (tc_Qi D (tc_rW ad cA q.2) A q.1) args s 0 0 A) (F0 m 0 ls []) := by
  have C0 := C
  obtain ⟨hx, hb, hml, hown, ⟨hK, hN⟩, hr, hlk⟩ := C
  unfold m_XR_patternPixel at h
  refine lv_iload_n hx hb dXR_patternPixel_0 rfl (lv_at hl 1 rfl) ?_
  refine lv_bipush (v := 11) hx hb dXR_patternPixel_1 (by decide) ?_
  refine lv_ishr hx hb dXR_patternPixel_3 ?_
  refine lv_iconst (v := 1) hx hb dXR_patternPixel_4 (by decide) ?_
  refine lv_iand hx hb dXR_patternPixel_5 ?_
  refine lv_iconst (v := 1) hx hb dXR_patternPixel_6 (by decide) ?_
  refine lv_icmp_ne (tgt := 16) hx hb dXR_patternPixel_7 (by decide) (fun hc => ?_) (fun hc => ?_)
  · have h := tc_in hc h
    refine lv_iload_n hx hb dXR_patternPixel_16 rfl (lv_at hl 2 rfl) ?_
    exact w_XR_patternPixel_17 C0 hJ h hP hS (lv_sub hl [0, 1, 3] rfl)
  · have h := tc_ip hc h
    refine lv_iconst (v := 3) hx hb dXR_patternPixel_10 (by decide) ?_
    refine lv_iload_n hx hb dXR_patternPixel_11 rfl (lv_at hl 2 rfl) ?_
    refine lv_isub hx hb dXR_patternPixel_12 ?_
    refine lv_goto (tgt := 17) hx hb dXR_patternPixel_13 (by decide) ?_
    exact w_XR_patternPixel_17 C0 hJ h hP hS (lv_sub hl [0, 1, 3] rfl)
theorem k_XR_patternPixel (hJ : ∀ σ, va_D A (tc_rW ad cA σ)) {σ : tc_S} {l1 l2 l3 : Int32} {q : Int32 × tc_S} (h : m_XR_patternPixel σ l1 l2 l3 = some q) : Met l yXR_patternPixel [.code yXR_patternPixel cXR_patternPixel 7 (some .int)] (tc_R 1) (tc_Pc D cA (tc_rW ad cA σ) [.ref (ad 0), .int l1, .int l2, .int l3]) (tc_Qi D (tc_rW ad cA q.2) A q.1) 0 0 A :=
  tc_met (by decide) (Nat.le_of_ble_eq_true rfl) (fun _ _ _ _ _ _ _ C hP _ hl => w_XR_patternPixel_0 C hJ h hP va_S.rf hl)
def m_XR_spritePixel_60 (σ : tc_S) (k0 : Int32) : Option (Int32 × tc_S) := (some (k0, σ))
set_option maxHeartbeats 4000000 in
set_option maxRecDepth 100000 in
theorem w_XR_spritePixel_60 (C : tc_C p s m args meth c RXR cXR_spritePixel 5 (some .int) D cA) (hJ : ∀ σ, va_D A (tc_rW ad cA σ)) {q : Int32 × tc_S} {σ : tc_S} {k0 : Int32} {H : Heap} {locs : List Loc} {ls : Array Slot} (h : m_XR_spritePixel_60 σ k0 = some q) (hP : va_P D vwCl (tc_rW ad cA σ) H) (hS : va_S A s.heap H locs) (hl : lv_has ls 5 []) : W p l e (tc_R 2) s m args below meth c H locs 0 0 (MQ below (tc_Qi D (tc_rW ad cA q.2) A q.1) args s 0 0 A) (F0 m 60 ls [.int k0]) := by
  have C0 := C
  obtain ⟨hx, hb, hml, hown, ⟨hK, hN⟩, hr, hlk⟩ := C
  unfold m_XR_spritePixel_60 at h
  exact tc_rri C0 hP hS h dXR_spritePixel_60
def m_XR_spritePixel_43 (σ : tc_S) : Option (Int32 × tc_S) := (m_XR_spritePixel_60 σ 0)
set_option maxHeartbeats 4000000 in
set_option maxRecDepth 100000 in
theorem w_XR_spritePixel_43 (C : tc_C p s m args meth c RXR cXR_spritePixel 5 (some .int) D cA) (hJ : ∀ σ, va_D A (tc_rW ad cA σ)) {q : Int32 × tc_S} {σ : tc_S} {H : Heap} {locs : List Loc} {ls : Array Slot} (h : m_XR_spritePixel_43 σ = some q) (hP : va_P D vwCl (tc_rW ad cA σ) H) (hS : va_S A s.heap H locs) (hl : lv_has ls 5 []) : W p l e (tc_R 2) s m args below meth c H locs 0 0 (MQ below (tc_Qi D (tc_rW ad cA q.2) A q.1) args s 0 0 A) (F0 m 43 ls []) := by
  have C0 := C
  obtain ⟨hx, hb, hml, hown, ⟨hK, hN⟩, hr, hlk⟩ := C
  unfold m_XR_spritePixel_43 at h
  refine lv_iconst (v := 0) hx hb dXR_spritePixel_43 (by decide) ?_
  refine lv_goto (tgt := 60) hx hb dXR_spritePixel_44 (by decide) ?_
  exact w_XR_spritePixel_60 C0 hJ h hP hS (lv_sub hl [] rfl)
def m_XR_spritePixel (σ : tc_S) (l1 l2 : Int32) : Option (Int32 × tc_S) := ((m_XR_spriteWord σ l1 3).bind (fun q7 => ((m_XR_spriteWord q7.2 l1 0).bind (fun q25 => (if ((l2 + 16) - (q7.1 &&& 63)) < 0 then (m_XR_spritePixel_43 q25.2) else (if ((l2 + 16) - (q7.1 &&& 63)) ≤ 3 then ((m_XR_spriteWord q25.2 l1 2).bind (fun q51 => ((m_XR_patternPixel q51.2 q51.1 ((l2 + 16) - (q7.1 &&& 63)) (((tc_gf q7.2 27) + 16) - (q25.1 &&& 63))).bind (fun q57 => (m_XR_spritePixel_60 q57.2 q57.1))))) else (m_XR_spritePixel_43 q25.2)))))))
set_option maxHeartbeats 4000000 in
set_option maxRecDepth 100000 in
theorem w_XR_spritePixel_0 (C : tc_C p s m args meth c RXR cXR_spritePixel 5 (some .int) D cA) (hJ : ∀ σ, va_D A (tc_rW ad cA σ)) {q : Int32 × tc_S} {σ : tc_S} {l1 l2 : Int32} {H : Heap} {locs : List Loc} {ls : Array Slot} (h : m_XR_spritePixel σ l1 l2 = some q) (hP : va_P D vwCl (tc_rW ad cA σ) H) (hS : va_S A s.heap H locs) (hl : lv_has ls 5 [(0, .ref (ad 0)), (1, .int l1), (2, .int l2)]) : W p l e (tc_R 2) s m args below meth c H locs 0 0 (MQ below (tc_Qi D (tc_rW ad cA q.2) A q.1) args s 0 0 A) (F0 m 0 ls []) := by
  have C0 := C
  obtain ⟨hx, hb, hml, hown, ⟨hK, hN⟩, hr, hlk⟩ := C
  unfold m_XR_spritePixel at h
  refine lv_iload_n hx hb dXR_spritePixel_0 rfl (lv_at hl 2 rfl) ?_
  refine lv_bipush (v := 16) hx hb dXR_spritePixel_1 (by decide) ?_
  refine lv_iadd hx hb dXR_spritePixel_3 ?_
  refine lv_aload_n hx hb dXR_spritePixel_4 rfl (lv_at hl 0 rfl) ?_
  refine lv_iload_n hx hb dXR_spritePixel_5 rfl (lv_at hl 1 rfl) ?_
  refine lv_iconst (v := 3) hx hb dXR_spritePixel_6 (by decide) ?_
  obtain ⟨q7, e7, h⟩ := tc_bd_some h
  refine tc_cVi (As := [.int l1, .int 3]) (rest := [.int (l2 + 16)]) C0 (k_XR_spriteWord hJ e7) tv_XR_293 (by decide) (by decide) hP hS hl 0 rfl rfl (Nat.le_of_ble_eq_true rfl) dXR_spritePixel_7 rfl (fun H locs hP hS => ?_)
  refine lv_bipush (v := 63) hx hb dXR_spritePixel_10 (by decide) ?_
  refine lv_iand hx hb dXR_spritePixel_12 ?_
  refine lv_isub hx hb dXR_spritePixel_13 ?_
  refine lv_istore_n (lv' := [(3, .int ((l2 + 16) - (q7.1 &&& 63))), (0, .ref (ad 0)), (1, .int l1), (2, .int l2)]) hx hb dXR_spritePixel_14 rfl hl (by decide) rfl (fun ls hl => ?_)
  refine lv_aload_n hx hb dXR_spritePixel_15 rfl (lv_at hl 1 rfl) ?_
  refine tc_rg27 C0 hP (tc_use hN tw_662) dXR_spritePixel_16 ?_
  refine lv_bipush (v := 16) hx hb dXR_spritePixel_19 (by decide) ?_
  refine lv_iadd hx hb dXR_spritePixel_21 ?_
  refine lv_aload_n hx hb dXR_spritePixel_22 rfl (lv_at hl 1 rfl) ?_
  refine lv_iload_n hx hb dXR_spritePixel_23 rfl (lv_at hl 2 rfl) ?_
  refine lv_iconst (v := 0) hx hb dXR_spritePixel_24 (by decide) ?_
  obtain ⟨q25, e25, h⟩ := tc_bd_some h
  refine tc_cVi (As := [.int l1, .int 0]) (rest := [.int ((tc_gf q7.2 27) + 16)]) C0 (k_XR_spriteWord hJ e25) tv_XR_293 (by decide) (by decide) hP hS hl 0 rfl rfl (Nat.le_of_ble_eq_true rfl) dXR_spritePixel_25 rfl (fun H locs hP hS => ?_)
  refine lv_bipush (v := 63) hx hb dXR_spritePixel_28 (by decide) ?_
  refine lv_iand hx hb dXR_spritePixel_30 ?_
  refine lv_isub hx hb dXR_spritePixel_31 ?_
  refine lv_istore (lv' := [(4, .int (((tc_gf q7.2 27) + 16) - (q25.1 &&& 63))), (3, .int ((l2 + 16) - (q7.1 &&& 63))), (0, .ref (ad 0)), (1, .int l1), (2, .int l2)]) hx hb dXR_spritePixel_32 hl (by decide) rfl (fun ls hl => ?_)
  refine lv_iload_n hx hb dXR_spritePixel_34 rfl (lv_at hl 1 rfl) ?_
  refine lv_if_lt (tgt := 43) hx hb dXR_spritePixel_35 (by decide) (fun hc => ?_) (fun hc => ?_)
  · have h := tc_ip hc h
    exact w_XR_spritePixel_43 C0 hJ h hP hS (lv_sub hl [] rfl)
  · have h := tc_in hc h
    refine lv_iload_n hx hb dXR_spritePixel_38 rfl (lv_at hl 1 rfl) ?_
    refine lv_iconst (v := 3) hx hb dXR_spritePixel_39 (by decide) ?_
    refine lv_icmp_le (tgt := 47) hx hb dXR_spritePixel_40 (by decide) (fun hc => ?_) (fun hc => ?_)
    · have h := tc_ip hc h
      refine lv_aload_n hx hb dXR_spritePixel_47 rfl (lv_at hl 2 rfl) ?_
      refine lv_aload_n hx hb dXR_spritePixel_48 rfl (lv_at hl 2 rfl) ?_
      refine lv_iload_n hx hb dXR_spritePixel_49 rfl (lv_at hl 3 rfl) ?_
      refine lv_iconst (v := 2) hx hb dXR_spritePixel_50 (by decide) ?_
      obtain ⟨q51, e51, h⟩ := tc_bd_some h
      refine tc_cVi (As := [.int l1, .int 2]) (rest := [.ref (ad 0)]) C0 (k_XR_spriteWord hJ e51) tv_XR_293 (by decide) (by decide) hP hS hl 0 rfl rfl (Nat.le_of_ble_eq_true rfl) dXR_spritePixel_51 rfl (fun H locs hP hS => ?_)
      refine lv_iload_n hx hb dXR_spritePixel_54 rfl (lv_at hl 1 rfl) ?_
      refine lv_iload hx hb dXR_spritePixel_55 (lv_at hl 0 rfl) ?_
      obtain ⟨q57, e57, h⟩ := tc_bd_some h
      refine tc_cVi (As := [.int q51.1, .int ((l2 + 16) - (q7.1 &&& 63)), .int (((tc_gf q7.2 27) + 16) - (q25.1 &&& 63))]) (rest := []) C0 (k_XR_patternPixel hJ e57) tv_XR_283 (by decide) (by decide) hP hS hl 0 rfl rfl (Nat.le_of_ble_eq_true rfl) dXR_spritePixel_57 rfl (fun H locs hP hS => ?_)
      exact w_XR_spritePixel_60 C0 hJ h hP hS (lv_sub hl [] rfl)
    · have h := tc_in hc h
      exact w_XR_spritePixel_43 C0 hJ h hP hS (lv_sub hl [] rfl)
theorem k_XR_spritePixel (hJ : ∀ σ, va_D A (tc_rW ad cA σ)) {σ : tc_S} {l1 l2 : Int32} {q : Int32 × tc_S} (h : m_XR_spritePixel σ l1 l2 = some q) : Met l yXR_spritePixel [.code yXR_spritePixel cXR_spritePixel 5 (some .int)] (tc_R 2) (tc_Pc D cA (tc_rW ad cA σ) [.ref (ad 0), .int l1, .int l2]) (tc_Qi D (tc_rW ad cA q.2) A q.1) 0 0 A :=
  tc_met (by decide) (Nat.le_of_ble_eq_true rfl) (fun _ _ _ _ _ _ _ C hP _ hl => w_XR_spritePixel_0 C hJ h hP va_S.rf hl)
def m_XR_spriteAt_60 (Z : tc_S → Int32 → Int32 → Int32 → Option (Int32 × tc_S)) (σ : tc_S) (l1 l3 k0 : Int32) : Option (Int32 × tc_S) := (Z σ l1 k0 (l3 + 1))
set_option maxHeartbeats 4000000 in
set_option maxRecDepth 100000 in
theorem w_XR_spriteAt_60 (C : tc_C p s m args meth c RXR cXR_spriteAt 5 (some .int) D cA) (hJ : ∀ σ, va_D A (tc_rW ad cA σ)) {q : Int32 × tc_S} {Z : tc_S → Int32 → Int32 → Int32 → Option (Int32 × tc_S)} (hZ : ∀ {σ : tc_S} {l1 l2 l3 : Int32} {H : Heap} {locs : List Loc} {ls : Array Slot}, Z σ l1 l2 l3 = some q → va_P D vwCl (tc_rW ad cA σ) H → va_S A s.heap H locs → lv_has ls 5 [(0, .ref (ad 0)), (1, .int l1), (2, .int l2), (3, .int l3)] → W p l e (tc_R 3) s m args below meth c H locs 0 0 (MQ below (tc_Qi D (tc_rW ad cA q.2) A q.1) args s 0 0 A) (F0 m 4 ls [])) {σ : tc_S} {l1 l3 k0 : Int32} {H : Heap} {locs : List Loc} {ls : Array Slot} (h : m_XR_spriteAt_60 Z σ l1 l3 k0 = some q) (hP : va_P D vwCl (tc_rW ad cA σ) H) (hS : va_S A s.heap H locs) (hl : lv_has ls 5 [(0, .ref (ad 0)), (1, .int l1), (3, .int l3)]) : W p l e (tc_R 3) s m args below meth c H locs 0 0 (MQ below (tc_Qi D (tc_rW ad cA q.2) A q.1) args s 0 0 A) (F0 m 60 ls [.int k0]) := by
  have C0 := C
  obtain ⟨hx, hb, hml, hown, ⟨hK, hN⟩, hr, hlk⟩ := C
  unfold m_XR_spriteAt_60 at h
  refine lv_istore_n (lv' := [(2, .int k0), (0, .ref (ad 0)), (1, .int l1), (3, .int l3)]) hx hb dXR_spriteAt_60 rfl hl (by decide) rfl (fun ls hl => ?_)
  refine lv_iinc (k := 3) (v := (l3 + 1)) (lv' := [(3, .int (l3 + 1)), (2, .int k0), (0, .ref (ad 0)), (1, .int l1)]) hx hb dXR_spriteAt_61 hl rfl rfl (by decide) rfl (fun ls hl => ?_)
  refine lv_goto (tgt := 4) hx hb dXR_spriteAt_64 (by decide) ?_
  exact hZ h hP hS (lv_sub hl [2, 3, 1, 0] rfl)
def m_XR_spriteAt_47 (Z : tc_S → Int32 → Int32 → Int32 → Option (Int32 × tc_S)) (σ : tc_S) (l1 l2 l3 l4 k0 : Int32) : Option (Int32 × tc_S) := (tc_gb k0 (if l2 = 0 then (m_XR_spriteAt_60 Z (tc_sf σ 25 k0) l1 l3 l4) else (m_XR_spriteAt_60 Z (tc_sf σ 25 k0) l1 l3 l2)))
set_option maxHeartbeats 4000000 in
set_option maxRecDepth 100000 in
theorem w_XR_spriteAt_47 (C : tc_C p s m args meth c RXR cXR_spriteAt 5 (some .int) D cA) (hJ : ∀ σ, va_D A (tc_rW ad cA σ)) {q : Int32 × tc_S} {Z : tc_S → Int32 → Int32 → Int32 → Option (Int32 × tc_S)} (hZ : ∀ {σ : tc_S} {l1 l2 l3 : Int32} {H : Heap} {locs : List Loc} {ls : Array Slot}, Z σ l1 l2 l3 = some q → va_P D vwCl (tc_rW ad cA σ) H → va_S A s.heap H locs → lv_has ls 5 [(0, .ref (ad 0)), (1, .int l1), (2, .int l2), (3, .int l3)] → W p l e (tc_R 3) s m args below meth c H locs 0 0 (MQ below (tc_Qi D (tc_rW ad cA q.2) A q.1) args s 0 0 A) (F0 m 4 ls [])) {σ : tc_S} {l1 l2 l3 l4 k0 : Int32} {H : Heap} {locs : List Loc} {ls : Array Slot} (h : m_XR_spriteAt_47 Z σ l1 l2 l3 l4 k0 = some q) (hP : va_P D vwCl (tc_rW ad cA σ) H) (hS : va_S A s.heap H locs) (hl : lv_has ls 5 [(0, .ref (ad 0)), (1, .int l1), (2, .int l2), (3, .int l3), (4, .int l4)]) : W p l e (tc_R 3) s m args below meth c H locs 0 0 (MQ below (tc_Qi D (tc_rW ad cA q.2) A q.1) args s 0 0 A) (F0 m 47 ls [.int k0, .ref (ad 0)]) := by
  have C0 := C
  obtain ⟨hx, hb, hml, hown, ⟨hK, hN⟩, hr, hlk⟩ := C
  unfold m_XR_spriteAt_47 at h
  obtain ⟨hz, h⟩ := tc_gb_some h
  refine tc_rp25 C0 hJ hP hS (tc_use hN tw_660) hz dXR_spriteAt_47 (fun H locs hP hS => ?_)
  refine lv_iload_n hx hb dXR_spriteAt_50 rfl (lv_at hl 2 rfl) ?_
  refine lv_if_ne (tgt := 59) hx hb dXR_spriteAt_51 (by decide) (fun hc => ?_) (fun hc => ?_)
  · have h := tc_in hc h
    refine lv_iload_n hx hb dXR_spriteAt_59 rfl (lv_at hl 2 rfl) ?_
    exact w_XR_spriteAt_60 C0 hJ hZ h hP hS (lv_sub hl [0, 1, 3] rfl)
  · have h := tc_ip hc h
    refine lv_iload hx hb dXR_spriteAt_54 (lv_at hl 4 rfl) ?_
    refine lv_goto (tgt := 60) hx hb dXR_spriteAt_56 (by decide) ?_
    exact w_XR_spriteAt_60 C0 hJ hZ h hP hS (lv_sub hl [0, 1, 3] rfl)
def m_XR_spriteAt_42 (Z : tc_S → Int32 → Int32 → Int32 → Option (Int32 × tc_S)) (σ : tc_S) (l1 l2 l3 l4 : Int32) : Option (Int32 × tc_S) := (m_XR_spriteAt_47 Z σ l1 l2 l3 l4 1)
set_option maxHeartbeats 4000000 in
set_option maxRecDepth 100000 in
theorem w_XR_spriteAt_42 (C : tc_C p s m args meth c RXR cXR_spriteAt 5 (some .int) D cA) (hJ : ∀ σ, va_D A (tc_rW ad cA σ)) {q : Int32 × tc_S} {Z : tc_S → Int32 → Int32 → Int32 → Option (Int32 × tc_S)} (hZ : ∀ {σ : tc_S} {l1 l2 l3 : Int32} {H : Heap} {locs : List Loc} {ls : Array Slot}, Z σ l1 l2 l3 = some q → va_P D vwCl (tc_rW ad cA σ) H → va_S A s.heap H locs → lv_has ls 5 [(0, .ref (ad 0)), (1, .int l1), (2, .int l2), (3, .int l3)] → W p l e (tc_R 3) s m args below meth c H locs 0 0 (MQ below (tc_Qi D (tc_rW ad cA q.2) A q.1) args s 0 0 A) (F0 m 4 ls [])) {σ : tc_S} {l1 l2 l3 l4 : Int32} {H : Heap} {locs : List Loc} {ls : Array Slot} (h : m_XR_spriteAt_42 Z σ l1 l2 l3 l4 = some q) (hP : va_P D vwCl (tc_rW ad cA σ) H) (hS : va_S A s.heap H locs) (hl : lv_has ls 5 [(0, .ref (ad 0)), (1, .int l1), (2, .int l2), (3, .int l3), (4, .int l4)]) : W p l e (tc_R 3) s m args below meth c H locs 0 0 (MQ below (tc_Qi D (tc_rW ad cA q.2) A q.1) args s 0 0 A) (F0 m 42 ls [.ref (ad 0)]) := by
  have C0 := C
  obtain ⟨hx, hb, hml, hown, ⟨hK, hN⟩, hr, hlk⟩ := C
  unfold m_XR_spriteAt_42 at h
  refine lv_iconst (v := 1) hx hb dXR_spriteAt_42 (by decide) ?_
  refine lv_goto (tgt := 47) hx hb dXR_spriteAt_43 (by decide) ?_
  exact w_XR_spriteAt_47 C0 hJ hZ h hP hS (lv_sub hl [0, 1, 2, 3, 4] rfl)
def m_XR_spriteAt_46 (Z : tc_S → Int32 → Int32 → Int32 → Option (Int32 × tc_S)) (σ : tc_S) (l1 l2 l3 l4 : Int32) : Option (Int32 × tc_S) := (m_XR_spriteAt_47 Z σ l1 l2 l3 l4 0)
set_option maxHeartbeats 4000000 in
set_option maxRecDepth 100000 in
theorem w_XR_spriteAt_46 (C : tc_C p s m args meth c RXR cXR_spriteAt 5 (some .int) D cA) (hJ : ∀ σ, va_D A (tc_rW ad cA σ)) {q : Int32 × tc_S} {Z : tc_S → Int32 → Int32 → Int32 → Option (Int32 × tc_S)} (hZ : ∀ {σ : tc_S} {l1 l2 l3 : Int32} {H : Heap} {locs : List Loc} {ls : Array Slot}, Z σ l1 l2 l3 = some q → va_P D vwCl (tc_rW ad cA σ) H → va_S A s.heap H locs → lv_has ls 5 [(0, .ref (ad 0)), (1, .int l1), (2, .int l2), (3, .int l3)] → W p l e (tc_R 3) s m args below meth c H locs 0 0 (MQ below (tc_Qi D (tc_rW ad cA q.2) A q.1) args s 0 0 A) (F0 m 4 ls [])) {σ : tc_S} {l1 l2 l3 l4 : Int32} {H : Heap} {locs : List Loc} {ls : Array Slot} (h : m_XR_spriteAt_46 Z σ l1 l2 l3 l4 = some q) (hP : va_P D vwCl (tc_rW ad cA σ) H) (hS : va_S A s.heap H locs) (hl : lv_has ls 5 [(0, .ref (ad 0)), (1, .int l1), (2, .int l2), (3, .int l3), (4, .int l4)]) : W p l e (tc_R 3) s m args below meth c H locs 0 0 (MQ below (tc_Qi D (tc_rW ad cA q.2) A q.1) args s 0 0 A) (F0 m 46 ls [.ref (ad 0)]) := by
  have C0 := C
  obtain ⟨hx, hb, hml, hown, ⟨hK, hN⟩, hr, hlk⟩ := C
  unfold m_XR_spriteAt_46 at h
  refine lv_iconst (v := 0) hx hb dXR_spriteAt_46 (by decide) ?_
  exact w_XR_spriteAt_47 C0 hJ hZ h hP hS (lv_sub hl [0, 1, 2, 3, 4] rfl)
def m_XR_spriteAt_4 : Nat → tc_S → Int32 → Int32 → Int32 → Option (Int32 × tc_S)
  | 0, _, _, _, _ => none
  | n + 1, σ, l1, l2, l3 => (if (tc_gf σ 36) ≤ l3 then (some (l2, σ)) else (tc_gd l3 3 ((m_XR_spritePixel σ (tc_ga σ 12 l3) l1).bind (fun q20 => (if (tc_gf q20.2 25) = 0 then (if q20.1 ≤ 0 then (m_XR_spriteAt_46 (m_XR_spriteAt_4 n) q20.2 l1 l2 l3 q20.1) else (if l2 ≤ 0 then (m_XR_spriteAt_46 (m_XR_spriteAt_4 n) q20.2 l1 l2 l3 q20.1) else (m_XR_spriteAt_42 (m_XR_spriteAt_4 n) q20.2 l1 l2 l3 q20.1))) else (m_XR_spriteAt_42 (m_XR_spriteAt_4 n) q20.2 l1 l2 l3 q20.1))))))
set_option maxHeartbeats 4000000 in
set_option maxRecDepth 100000 in
theorem w_XR_spriteAt_4 (C : tc_C p s m args meth c RXR cXR_spriteAt 5 (some .int) D cA) (hJ : ∀ σ, va_D A (tc_rW ad cA σ)) {q : Int32 × tc_S} : ∀ (n : Nat) {σ : tc_S} {l1 l2 l3 : Int32} {H : Heap} {locs : List Loc} {ls : Array Slot} (h : m_XR_spriteAt_4 n σ l1 l2 l3 = some q) (hP : va_P D vwCl (tc_rW ad cA σ) H) (hS : va_S A s.heap H locs) (hl : lv_has ls 5 [(0, .ref (ad 0)), (1, .int l1), (2, .int l2), (3, .int l3)]), W p l e (tc_R 3) s m args below meth c H locs 0 0 (MQ below (tc_Qi D (tc_rW ad cA q.2) A q.1) args s 0 0 A) (F0 m 4 ls []) := by
  have C0 := C
  obtain ⟨hx, hb, hml, hown, ⟨hK, hN⟩, hr, hlk⟩ := C
  intro n
  induction n with
  | zero =>
    intro σ l1 l2 l3 H locs ls h hP hS hl
    exact absurd h (by simp [m_XR_spriteAt_4])
  | succ n ih =>
    intro σ l1 l2 l3 H locs ls h hP hS hl
    unfold m_XR_spriteAt_4 at h
    refine lv_iload_n hx hb dXR_spriteAt_4 rfl (lv_at hl 3 rfl) ?_
    refine lv_aload_n hx hb dXR_spriteAt_5 rfl (lv_at hl 0 rfl) ?_
    refine tc_rg36 C0 hP (tc_use hN tw_666) dXR_spriteAt_6 ?_
    refine lv_icmp_ge (tgt := 67) hx hb dXR_spriteAt_9 (by decide) (fun hc => ?_) (fun hc => ?_)
    · have h := tc_ip hc h
      refine lv_iload_n hx hb dXR_spriteAt_67 rfl (lv_at hl 2 rfl) ?_
      exact tc_rri C0 hP hS h dXR_spriteAt_68
    · have h := tc_in hc h
      refine lv_aload_n hx hb dXR_spriteAt_12 rfl (lv_at hl 0 rfl) ?_
      refine lv_aload_n hx hb dXR_spriteAt_13 rfl (lv_at hl 0 rfl) ?_
      refine tc_rr_XR_sprite C0 hP (tc_use hN tw_667) dXR_spriteAt_14 ?_
      refine lv_iload_n hx hb dXR_spriteAt_17 rfl (lv_at hl 3 rfl) ?_
      obtain ⟨hi, h⟩ := tc_gd_some h
      refine tc_rld10 C0 hP hi dXR_spriteAt_18 ?_
      refine lv_iload_n hx hb dXR_spriteAt_19 rfl (lv_at hl 1 rfl) ?_
      obtain ⟨q20, e20, h⟩ := tc_bd_some h
      refine tc_cVi (As := [.int (tc_ga σ 12 l3), .int l1]) (rest := []) C0 (k_XR_spritePixel hJ e20) tv_XR_297 (by decide) (by decide) hP hS hl 0 rfl rfl (Nat.le_of_ble_eq_true rfl) dXR_spriteAt_20 rfl (fun H locs hP hS => ?_)
      refine lv_istore (lv' := [(4, .int q20.1), (0, .ref (ad 0)), (1, .int l1), (2, .int l2), (3, .int l3)]) hx hb dXR_spriteAt_23 hl (by decide) rfl (fun ls hl => ?_)
      refine lv_aload_n hx hb dXR_spriteAt_25 rfl (lv_at hl 1 rfl) ?_
      refine lv_aload_n hx hb dXR_spriteAt_26 rfl (lv_at hl 1 rfl) ?_
      refine tc_rg25 C0 hP (tc_use hN tw_660) dXR_spriteAt_27 ?_
      refine lv_if_ne (tgt := 42) hx hb dXR_spriteAt_30 (by decide) (fun hc => ?_) (fun hc => ?_)
      · have h := tc_in hc h
        exact w_XR_spriteAt_42 C0 hJ (fun h hP hS hl => ih h hP hS hl) h hP hS (lv_sub hl [1, 2, 3, 4, 0] rfl)
      · have h := tc_ip hc h
        refine lv_iload hx hb dXR_spriteAt_33 (lv_at hl 0 rfl) ?_
        refine lv_if_le (tgt := 46) hx hb dXR_spriteAt_35 (by decide) (fun hc => ?_) (fun hc => ?_)
        · have h := tc_ip hc h
          exact w_XR_spriteAt_46 C0 hJ (fun h hP hS hl => ih h hP hS hl) h hP hS (lv_sub hl [1, 2, 3, 4, 0] rfl)
        · have h := tc_in hc h
          refine lv_iload_n hx hb dXR_spriteAt_38 rfl (lv_at hl 3 rfl) ?_
          refine lv_if_le (tgt := 46) hx hb dXR_spriteAt_39 (by decide) (fun hc => ?_) (fun hc => ?_)
          · have h := tc_ip hc h
            exact w_XR_spriteAt_46 C0 hJ (fun h hP hS hl => ih h hP hS hl) h hP hS (lv_sub hl [1, 2, 3, 4, 0] rfl)
          · have h := tc_in hc h
            exact w_XR_spriteAt_42 C0 hJ (fun h hP hS hl => ih h hP hS hl) h hP hS (lv_sub hl [1, 2, 3, 4, 0] rfl)
def m_XR_spriteAt (σ : tc_S) (l1 : Int32) : Option (Int32 × tc_S) := (m_XR_spriteAt_4 2000 σ l1 0 0)
set_option maxHeartbeats 4000000 in
set_option maxRecDepth 100000 in
theorem w_XR_spriteAt_0 (C : tc_C p s m args meth c RXR cXR_spriteAt 5 (some .int) D cA) (hJ : ∀ σ, va_D A (tc_rW ad cA σ)) {q : Int32 × tc_S} {σ : tc_S} {l1 : Int32} {H : Heap} {locs : List Loc} {ls : Array Slot} (h : m_XR_spriteAt σ l1 = some q) (hP : va_P D vwCl (tc_rW ad cA σ) H) (hS : va_S A s.heap H locs) (hl : lv_has ls 5 [(0, .ref (ad 0)), (1, .int l1)]) : W p l e (tc_R 3) s m args below meth c H locs 0 0 (MQ below (tc_Qi D (tc_rW ad cA q.2) A q.1) args s 0 0 A) (F0 m 0 ls []) := by
  have C0 := C
  obtain ⟨hx, hb, hml, hown, ⟨hK, hN⟩, hr, hlk⟩ := C
  unfold m_XR_spriteAt at h
  refine lv_iconst (v := 0) hx hb dXR_spriteAt_0 (by decide) ?_
  refine lv_istore_n (lv' := [(2, .int 0), (0, .ref (ad 0)), (1, .int l1)]) hx hb dXR_spriteAt_1 rfl hl (by decide) rfl (fun ls hl => ?_)
  refine lv_iconst (v := 0) hx hb dXR_spriteAt_2 (by decide) ?_
  refine lv_istore_n (lv' := [(3, .int 0), (2, .int 0), (0, .ref (ad 0)), (1, .int l1)]) hx hb dXR_spriteAt_3 rfl hl (by decide) rfl (fun ls hl => ?_)
  exact w_XR_spriteAt_4 C0 hJ _ h hP hS (lv_sub hl [2, 3, 1, 0] rfl)
theorem k_XR_spriteAt (hJ : ∀ σ, va_D A (tc_rW ad cA σ)) {σ : tc_S} {l1 : Int32} {q : Int32 × tc_S} (h : m_XR_spriteAt σ l1 = some q) : Met l yXR_spriteAt [.code yXR_spriteAt cXR_spriteAt 5 (some .int)] (tc_R 3) (tc_Pc D cA (tc_rW ad cA σ) [.ref (ad 0), .int l1]) (tc_Qi D (tc_rW ad cA q.2) A q.1) 0 0 A :=
  tc_met (by decide) (Nat.le_of_ble_eq_true rfl) (fun _ _ _ _ _ _ _ C hP _ hl => w_XR_spriteAt_0 C hJ h hP va_S.rf hl)
end WALK_R_12
