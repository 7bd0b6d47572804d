/-! what is made: rooms, starts and ends of constructors -/
def tn_R (d mc ms : Nat) : Room := { frames := d, cells := mc, slots := ms, locals := 40 * d }
abbrev tn_Pc (D : va_G) (cA : ClassId) (sz : Nat) (ws : va_W) (av : List Value) : Array Value → State → Prop := va_Pc av (fun U => U.heap.size = sz ∧ va_P D vwCl ws U.heap ∧ tc_K D cA U ∧ va_D (fun _ => True) ws)
abbrev tn_Qv (D : va_G) (A : Nat → Prop) (w1 : (Nat → Nat) → va_W) : Array Value → State → Outcome → State → Prop := va_Qv (S := Nat → Nat) (fun _ => True) (fun u t => va_P D vwCl (w1 u) t.heap ∧ va_D A (w1 u)) A
def tn_z : Nat → Int32 := fun _ => 0
theorem tn_arr {D : va_G} {cA : ClassId} {s : State} {args : Array Value} (hK : va_K D vwCl [(cA, .int)] s) : (Cond.arrayClass .int).before args s = true := by
  obtain ⟨h1, h2⟩ := hK.2 0 _ rfl
  obtain ⟨-, kA, hk, comp, hkind⟩ := h1 0 (fun _ => .null)
  have h3 : s.vm.findClass ("[" ++ FieldType.int.toString) = some cA := h2
  have hk : s.vm.classes[cA]? = some kA := hk
  simp [Cond.before, Cond.holds, Cond.value, h3, hk, hkind]
theorem tn_met {l : Launch} {y : MethodName} {cc : ByteArray} {maxL : Nat} {R : Room} {mc ms sz : Nat} {D : va_G} {cA : ClassId} {ws : va_W} {av : List Value} {Qc : Array Value → State → Outcome → State → Prop} (hy : plainName y.cls = true) (hnm : y.name = "<init>") (hlen : (lg_sl av).length ≤ maxL)
    (body : ∀ (p : Program) (e : Env) (s : State) (m : MethodId) (below : List Frame) (meth : Method) (c : Code) (A : Nat → Prop), tc_C p s m av.toArray meth c y.cls cc maxL none D cA → meth.name = "<init>" → A = va_A ws sz → va_P D vwCl ws s.heap → va_D A ws → (∀ q, s.heap.size ≤ q → A q) → ∀ ls : Array Slot, lv_has ls maxL (lv_args 0 av) → W p l e R s m av.toArray below meth c s.heap [] 0 0 (MQ below Qc av.toArray s mc ms A) (F0 m 0 ls [])) :
    Met l y [.code y cc maxL none] R (tn_Pc D cA sz ws av) Qc mc ms (va_A ws sz) := by
  refine Met.ofW (cc := cc) (maxL := maxL) (ret := none) hy rfl ?_
  intro p e s m args below meth c s₁ B hml hv
  obtain ⟨rfl, hsz, hP, hK, hD⟩ := hv
  rw [lg_entry_eq]
  exact body p e s m below meth c _ ⟨B.exec, B.bytes, hml, findClass_of_methodNamed B.named, hK, B.returns, B.notSynchronized⟩ ((name_of_methodNamed B.named B.method).1.trans hnm) rfl hP hD.self (fun q h => Or.inr (by rw [← hsz]; exact h)) _ (lv_entry av hlen)
theorem tn_blind {D : va_G} {cA : ClassId} {sz : Nat} {ws : va_W} {av : List Value} : FrameBlind (tn_Pc D cA sz ws av) := fun _ _ _ _ q => ⟨q.1, q.2.1, q.2.2.1, tc_K_calling q.2.2.2.1, q.2.2.2.2⟩
def tn_V (own : String) (index : Nat) (y : MethodName) (bytes : ByteArray) (maxL : Nat) (n : Nat) : Prop :=
  Cond.methodLink own index y ∈ tc_wA ∧ Cond.instanceMethod y ∈ tc_wA ∧ Cond.initialized y.cls ∈ tc_wA ∧ Cond.code y bytes maxL none ∈ tc_wA ∧ y.name = "<init>" ∧ (y.cls ≠ "java/lang/invoke/MethodHandle" ∧ y.cls ≠ "java/lang/invoke/VarHandle" ∧ (parseMethodDescriptor y.desc).map (fun d => d.parameters.length) = some n)
section TN
variable {p : Program} {l : Launch} {e : Env} {R : Room} {s : State} {m : MethodId} {args : Array Value} {below : List Frame} {meth : Method} {c : Code} {H : Heap} {locs : List Loc} {Q : State → Prop} {own : String} {cc : ByteArray} {nL : Nat} {ret rc : Option FieldType} {D : va_G} {cA : ClassId} {A A1 : Nat → Prop} {ws ws' wc wr wo : va_W} {y : MethodName} {bytes : ByteArray} {maxL d' index pc n mc ms cells slots cells' slots' : Nat} {b : Nat} {As rest st0 : List Value} {ls : Array Slot} {lv : List (Nat × Value)} {r : Int32} {w1 : (Nat → Nat) → va_W}
theorem tn_cb {rm : Room} (hN : ∀ w ∈ tc_wA, va_Nw w s) (hl : Cond.methodLink own index y ∈ tc_wA) (hi : Cond.initialized y.cls ∈ tc_wA) (hc : Cond.code y bytes maxL rc ∈ tc_wA) (hd : y.cls ≠ "java/lang/invoke/MethodHandle" ∧ y.cls ≠ "java/lang/invoke/VarHandle" ∧ (parseMethodDescriptor y.desc).map (fun d => d.parameters.length) = some n) (e1 : rm.cells = mc) (e2 : rm.slots = ms) (h1 : rm.frames < R.frames) (h2 : 8 + (maxL + 11) + rm.locals ≤ R.locals) :
    CallB R s args own index y bytes maxL rc [.code y bytes maxL rc] rm mc ms n := by
  refine ⟨e1, e2, h1, h2, fun w hw a' U hW => ?_, List.mem_singleton.mpr rfl, tc_use hN hc, tc_use hN hi, ⟨hd.1, hd.2.1⟩, fun sig h => ?_, tc_use hN hl⟩
  · rw [List.mem_singleton.mp hw]
    exact word_at (args := args) hW (Or.inl rfl) (tc_use hN hc)
  · have h3 := hd.2.2
    rw [h] at h3
    exact (Option.some.inj h3).symm
/-- a new array of numbers -/
theorem tn_newa (C : tc_C p s m args meth c own cc nL ret D cA) (hP : va_P D vwCl ws H) (hD : va_D A ws) (hS : va_S A s.heap H locs) (hA : ∀ q, s.heap.size ≤ q → A q) {n : Int32} {N : Nat} (hn : ¬ n < 0) (hN : n.toNatClampNeg = N) (hNb : N ≤ 4096) (e1 : cells + 1 = cells') (e2 : slots + N = slots') (hcells : cells' ≤ R.cells) (hslots : slots' ≤ R.slots) (hdg : decode cc pc = .ok (.newarray .int, 2))
    (kk : ∀ (q : Nat) (H1 : Heap), va_P D vwCl (ws ++ [(q, .inl (cA, N, .inl tn_z))]) H1 → va_D A (ws ++ [(q, .inl (cA, N, .inl tn_z))]) → va_S A s.heap H1 locs → W p l e R s m args below meth c H1 locs cells' slots' Q (F0 m (pc + 2) ls (.ref q :: rest))) : W p l e R s m args below meth c H locs cells slots Q (F0 m pc ls (.int n :: rest)) := by
  obtain ⟨hx, hb, hml, hown, ⟨hK, hN0⟩, hr0, hlk⟩ := C
  subst e1; subst e2
  refine va_newa (a0 := (N, .inl tn_z)) (ty := .int) (atype := .int) hx hb (tn_arr hK) rfl hK hP hD hS hA (fun c0 => by rw [vp_cell_i]; rfl) hn hN (by show N * 4 ≤ _; omega) hcells hslots hdg (fun q cB H1 hK1 hP1 hD1 hS1 => ?_)
  have h2 : s.vm.findClass ("[" ++ FieldType.int.toString) = some cB := (hK1.2 1 _ rfl).2
  have h3 : s.vm.findClass ("[" ++ FieldType.int.toString) = some cA := (hK.2 0 _ rfl).2
  have h4 : cB = cA := Option.some.inj (h2.symm.trans h3)
  subst h4
  exact kk q H1 hP1 hD1 hS1
/-- a constructor's call -/
theorem tn_call (C : tc_C p s m args meth c own cc nL ret D cA) (hv : tn_V own index y bytes maxL As.length) (hP : va_P D vwCl ws H) (hD : va_D A ws) (hS : va_S A s.heap H locs) (hA : ∀ q, s.heap.size ≤ q → A q) (hl : lv_has ls nL lv)
    (hM : ∀ sz : Nat, Met l y [.code y bytes maxL none] (tn_R d' mc ms) (tn_Pc D cA sz wc (.ref b :: As)) (tn_Qv D (va_A wc sz) w1) mc ms (va_A wc sz))
    (h1 : d' < R.frames) (h2 : 8 + (maxL + 11) + 40 * d' ≤ R.locals) (isC isR : List Nat) (hC : isC.map (fun i => ws[i]?) = wc.map some) (hR : isR.map (fun i => ws[i]?) = wr.map some) (hnC : va_nd isC = true) (hnR : va_nd isR = true) (hdis : ∀ i ∈ isR, i ∉ isC)
    (hr : (rest.map fun v => v.category).sum ≤ 8) (e1 : cells + mc = cells') (e2 : slots + ms = slots') (hcells : cells' ≤ R.cells) (hslots : slots' ≤ R.slots) (hdg : decode cc pc = .ok (.invokespecial index, 3)) (hst : st0 = As.reverse ++ .ref b :: rest)
    (kk : ∀ (u : Nat → Nat) (H1 : Heap) (locs1 : List Loc), va_P D vwCl (wr ++ w1 u) H1 → va_D A (wr ++ w1 u) → va_S A s.heap H1 locs1 → W p l e R s m args below meth c H1 locs1 cells' slots' Q (F0 m (pc + 3) ls rest)) : W p l e R s m args below meth c H locs cells slots Q (F0 m pc ls st0) := by
  obtain ⟨hx, hb, hml, hown, ⟨hK, hN⟩, hr0, hlk⟩ := C
  obtain ⟨v1, v2, v4, v5, v7, v6⟩ := hv
  subst e1; subst e2
  have hPc : va_P D vwCl wc H := fun k q hk => by
    have h1 : (isC.map (fun i => ws[i]?))[k]? = some (some q) := by rw [hC, List.getElem?_map, hk]; rfl
    rw [List.getElem?_map] at h1
    cases hi : isC[k]? with
    | none => rw [hi] at h1; cases h1
    | some i => rw [hi] at h1; exact hP i q (Option.some.inj h1)
  have hDc := hD.sub isC hnC hC
  have hFc := va_free (wc := wc) hD hS hA isC hC
  refine va_callv (va_runI (Ts := []) (As := As) (rest := rest) ⟨hx, hb, hml, hown, fun _ h => absurd h List.not_mem_nil⟩ (hM H.size) ⟨tn_cb hN v1 v4 v5 v6 rfl rfl h1 h2, v7, tc_use hN v2⟩ ⟨tn_blind, fun U hU hW => ⟨rfl, by rw [hU], by rw [hU]; exact hPc, tc_K_warm hW ⟨hK, hN⟩, hDc.weaken (fun _ _ _ _ => trivial)⟩⟩ rfl rfl hl.1 hst (lv_room hr) hdg ⟨hcells, hslots⟩) hS (fun q _ h => hFc q h) hFc (fun u t H1 locs1 ht _ _ hB _ hk1 hS1 => ?_)
  obtain ⟨hP1, hD1⟩ := hB
  rw [ht] at hP1
  obtain ⟨hP2, hD2⟩ := va_join (wr := wr) (w1 := w1 u) hP hD isC isR hC hR hnR hdis hk1 hFc hP1 hD1
  exact kk u H1 locs1 hP2 hD2 hS1
/-- a method's call with a number as its answer, where a second world stands by -/
theorem tl_i (C : tc_C p s m args meth c own cc nL ret D cA) (hM : Met l y [.code y bytes maxL rc] (tc_R d') (tc_Pc D cA ws (.ref b :: As)) (tc_Qi D ws' A1 r) 0 0 A1) (hv : tc_V own index y bytes maxL rc As.length) (h1 : d' < R.frames) (h2 : 8 + (maxL + 11) + 40 * d' ≤ R.locals) (hP : va_P D vwCl ws H) (hO : va_P D vwCl wo H) (hS : va_S A s.heap H locs) (hA : ∀ q, A1 q → A q) (hdis : ∀ (k : Nat) (q : Nat × va_E), wo[k]? = some q → ¬ A1 q.1) (hl : lv_has ls nL lv)
    (q0 : Nat) {ci N : Nat} {T : u_T} {fs : List Value} (he : ws[q0]? = some (b, .inr (ci, fs))) (hc : vwCl[ci]? = some (y.cls, T, N)) (hr : (rest.map fun v => v.category).sum ≤ 8) (hcells : cells ≤ R.cells) (hslots : slots ≤ R.slots) (hdg : decode cc pc = .ok (.invokevirtual index, 3)) (hst : st0 = As.reverse ++ .ref b :: rest)
    (kk : ∀ (H1 : Heap) (locs1 : List Loc), va_P D vwCl ws' H1 → va_P D vwCl wo H1 → va_S A s.heap H1 locs1 → W p l e R s m args below meth c H1 locs1 cells slots Q (F0 m (pc + 3) ls (.int r :: rest))) : W p l e R s m args below meth c H locs cells slots Q (F0 m pc ls st0) := by
  obtain ⟨hx, hb, hml, hown, ⟨hK, hN⟩, hr0, hlk⟩ := C
  obtain ⟨v1, v2, v3, v4, v5, v6⟩ := hv
  refine va_calli (va_runV (Ts := []) (As := As) (rest := rest) ⟨hx, hb, hml, hown, fun _ h => absurd h List.not_mem_nil⟩ hM ⟨tn_cb hN v1 v4 v5 v6 rfl rfl h1 h2, tc_use hN v2, tc_use hN v3⟩ ⟨tc_blind, va_recv hK hP hc he, fun U hU hW => ⟨rfl, by rw [hU]; exact hP, tc_K_warm hW ⟨hK, hN⟩⟩⟩ rfl rfl hl.1 hst (lv_room hr) hdg ⟨hcells, hslots⟩) hS (fun q _ h => hA q h) hA (fun r' u t H1 locs1 ht _ hp hB _ hk1 hS1 => ?_)
  cases hp
  exact kk H1 locs1 (ht ▸ hB) (hO.kept (fun k q hk => hk1 q.1 (hO k q hk).lt (hdis k q hk))) hS1
theorem tl_v (C : tc_C p s m args meth c own cc nL ret D cA) (hM : Met l y [.code y bytes maxL rc] (tc_R d') (tc_Pc D cA ws (.ref b :: As)) (tc_Qv D ws' A1) 0 0 A1) (hv : tc_V own index y bytes maxL rc As.length) (h1 : d' < R.frames) (h2 : 8 + (maxL + 11) + 40 * d' ≤ R.locals) (hP : va_P D vwCl ws H) (hO : va_P D vwCl wo H) (hS : va_S A s.heap H locs) (hA : ∀ q, A1 q → A q) (hdis : ∀ (k : Nat) (q : Nat × va_E), wo[k]? = some q → ¬ A1 q.1) (hl : lv_has ls nL lv)
    (q0 : Nat) {ci N : Nat} {T : u_T} {fs : List Value} (he : ws[q0]? = some (b, .inr (ci, fs))) (hc : vwCl[ci]? = some (y.cls, T, N)) (hr : (rest.map fun v => v.category).sum ≤ 8) (hcells : cells ≤ R.cells) (hslots : slots ≤ R.slots) (hdg : decode cc pc = .ok (.invokevirtual index, 3)) (hst : st0 = As.reverse ++ .ref b :: rest)
    (kk : ∀ (H1 : Heap) (locs1 : List Loc), va_P D vwCl ws' H1 → va_P D vwCl wo H1 → va_S A s.heap H1 locs1 → W p l e R s m args below meth c H1 locs1 cells slots Q (F0 m (pc + 3) ls rest)) : W p l e R s m args below meth c H locs cells slots Q (F0 m pc ls st0) := by
  obtain ⟨hx, hb, hml, hown, ⟨hK, hN⟩, hr0, hlk⟩ := C
  obtain ⟨v1, v2, v3, v4, v5, v6⟩ := hv
  refine va_callv (va_runV (Ts := []) (As := As) (rest := rest) ⟨hx, hb, hml, hown, fun _ h => absurd h List.not_mem_nil⟩ hM ⟨tn_cb hN v1 v4 v5 v6 rfl rfl h1 h2, tc_use hN v2, tc_use hN v3⟩ ⟨tc_blind, va_recv hK hP hc he, fun U hU hW => ⟨rfl, by rw [hU]; exact hP, tc_K_warm hW ⟨hK, hN⟩⟩⟩ rfl rfl hl.1 hst (lv_room hr) hdg ⟨hcells, hslots⟩) hS (fun q _ h => hA q h) hA (fun u t H1 locs1 ht _ hp hB _ hk1 hS1 => ?_)
  exact kk H1 locs1 (ht ▸ hB) (hO.kept (fun k q hk => hk1 q.1 (hO k q hk).lt (hdis k q hk))) hS1
end TN
