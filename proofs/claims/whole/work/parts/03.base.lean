/-! the state of a side: numbers by their places, arrays by theirs -/
abbrev tc_S : Type := (Nat → Int32) × (Nat → Nat → Int32)
def tc_gf (σ : tc_S) (k : Nat) : Int32 := σ.1 k
def tc_sf (σ : tc_S) (k : Nat) (v : Int32) : tc_S := (upd σ.1 k v, σ.2)
def tc_ga (σ : tc_S) (j : Nat) (i : Int32) : Int32 := σ.2 j i.toNatClampNeg
def tc_sa (σ : tc_S) (j : Nat) (i v : Int32) : tc_S := (σ.1, va_up σ.2 j (upd (σ.2 j) i.toNatClampNeg v))
/-- a place in an array of n places, else nothing -/
def tc_gd {α : Type} (i : Int32) (n : Nat) (x : Option α) : Option α := if (i < 0 ∨ n ≤ i.toNatClampNeg) then none else x
/-- a number that is a boolean, else nothing -/
def tc_gb {α : Type} (v : Int32) (x : Option α) : Option α := if (v = 0 ∨ v = 1) then x else none
theorem tc_gd_some {α : Type} {i : Int32} {n : Nat} {x : Option α} {r : α} (h : tc_gd i n x = some r) : vp_in i n ∧ x = some r := by
  unfold tc_gd at h
  by_cases hc : (i < 0 ∨ n ≤ i.toNatClampNeg)
  · rw [if_pos hc] at h; cases h
  · rw [if_neg hc] at h; exact ⟨hc, h⟩
theorem tc_gb_some {α : Type} {v : Int32} {x : Option α} {r : α} (h : tc_gb v x = some r) : (narrow .boolean (.int v) = .int v ∧ fits .boolean (.int v) = true) ∧ x = some r := by
  unfold tc_gb at h
  by_cases hc : (v = 0 ∨ v = 1)
  · rw [if_pos hc] at h
    refine ⟨?_, h⟩
    rcases hc with rfl | rfl <;> exact ⟨by decide, by decide⟩
  · rw [if_neg hc] at h; cases h
theorem tc_ip {α : Type} {c : Prop} [Decidable c] {x y z : α} (hc : c) (h : (if c then x else y) = z) : x = z := by rw [if_pos hc] at h; exact h
theorem tc_in {α : Type} {c : Prop} [Decidable c] {x y z : α} (hc : ¬ c) (h : (if c then x else y) = z) : y = z := by rw [if_neg hc] at h; exact h
theorem tc_bd_some {α β : Type} {x : Option α} {f : α → Option β} {b : β} (h : x.bind f = some b) : ∃ a, x = some a ∧ f a = some b := Option.bind_eq_some_iff.mp h
/-! the words of the tables that stay true -/
def tc_nest : Cond → Bool
  | .fieldLinkNest .. => true
  | .methodLinkNest .. => true
  | _ => false
def tc_ok (w : Cond) : Bool := w.onTables && (w.keeps || tc_nest w)
def tc_wA : List Cond := lw_tbl.filter tc_ok
theorem tc_mem {w : Cond} {i : Nat} (h : tables_1[i]? = some w) (ho : tc_ok w = true) : w ∈ tc_wA := List.mem_filter.mpr ⟨List.mem_append_right _ (List.mem_of_getElem? h), ho⟩
theorem tc_mem_s {w : Cond} (h : w ∈ k2_sels lw_privs) (ho : tc_ok w = true) : w ∈ tc_wA := List.mem_filter.mpr ⟨List.mem_append_left _ h, ho⟩
theorem tc_tab {w : Cond} (h : w ∈ tc_wA) : w.onTables = true := by
  have := (List.mem_filter.mp h).2
  simp only [tc_ok, Bool.and_eq_true] at this
  exact this.1
theorem tc_warm {w : Cond} (h : w ∈ tc_wA) {s U : State} (hW : s.WarmedH U.vm) (hs : va_Nw w s) : va_Nw w U := by
  have ho := (List.mem_filter.mp h).2
  simp only [tc_ok, Bool.and_eq_true, Bool.or_eq_true] at ho
  rcases ho.2 with hk | hk
  · exact word_at (args := #[]) (a' := #[]) hW (Or.inl (by rw [ho.1, hk]; rfl)) hs
  · cases w <;> first | exact va_Nw.warmF hW hs | exact va_Nw.warmM hW hs | (exact absurd hk (by simp [tc_nest]))
def tc_K (D : va_G) (cA : ClassId) (U : State) : Prop := va_K D vwCl [(cA, .int)] U ∧ ∀ w ∈ tc_wA, va_Nw w U
theorem tc_K_warm {D : va_G} {cA : ClassId} {s U : State} (hW : s.WarmedH U.vm) (h : tc_K D cA s) : tc_K D cA U := ⟨va_K.moved hW.alike h.1, fun w hw => tc_warm hw hW (h.2 w hw)⟩
theorem tc_K_calling {D : va_G} {cA : ClassId} {U : State} {g : JFrame} {mk : MethodId} {a : Array Value} (h : tc_K D cA U) : tc_K D cA (U.calling g mk a) := ⟨va_K.moved (u := U) (U := U.calling g mk a) (Vm.Alike.refl U.vm) h.1, fun w hw => va_Nw.same (u := U) (U := U.calling g mk a) (tc_tab hw) rfl (h.2 w hw)⟩
theorem tc_use {args : Array Value} {s : State} {w : Cond} (hN : ∀ w ∈ tc_wA, va_Nw w s) (h : w ∈ tc_wA) : w.before args s = true := va_Nw.use (tc_tab h) (hN w h)
theorem tc_ht {args : Array Value} {s : State} {L : List Cond} (hN : ∀ w ∈ tc_wA, va_Nw w s) (h : ∀ w ∈ L, w ∈ tc_wA) : ∀ w ∈ L, w.before args s = true := fun w hw => tc_use hN (h w hw)
/-- what stands fast while a method runs -/
def tc_C (p : Program) (s : State) (m : MethodId) (args : Array Value) (meth : Method) (c : Code) (own : String) (cc : ByteArray) (nL : Nat) (ret : Option FieldType) (D : va_G) (cA : ClassId) : Prop :=
  p.tables.exec = Jvm.exec ∧ c.code = cc ∧ c.maxLocals = nL ∧ s.vm.findClass own = some m.cls ∧ tc_K D cA s ∧ meth.sig.returnType = ret ∧ meth.locks = false
def tc_R (d : Nat) : Room := { frames := d, cells := 0, slots := 0, locals := 40 * d }
abbrev tc_Pc (D : va_G) (cA : ClassId) (ws : va_W) (av : List Value) : Array Value → State → Prop := va_Pc av (fun U => va_P D vwCl ws U.heap ∧ tc_K D cA U)
abbrev tc_Qi (D : va_G) (ws : va_W) (A : Nat → Prop) (r : Int32) : Array Value → State → Outcome → State → Prop := va_Qi (S := Unit) (fun r' _ => r' = r) (fun _ t => va_P D vwCl ws t.heap) A
abbrev tc_Qv (D : va_G) (ws : va_W) (A : Nat → Prop) : Array Value → State → Outcome → State → Prop := va_Qv (S := Unit) (fun _ => True) (fun _ t => va_P D vwCl ws t.heap) A
theorem tc_met {l : Launch} {y : MethodName} {cc : ByteArray} {maxL : Nat} {ret : Option FieldType} {d : Nat} {D : va_G} {cA : ClassId} {ws : va_W} {av : List Value} {Qc : Array Value → State → Outcome → State → Prop} {A : Nat → Prop} (hy : plainName y.cls = true) (hlen : (lg_sl av).length ≤ maxL)
    (body : ∀ (p : Program) (e : Env) (s : State) (m : MethodId) (below : List Frame) (meth : Method) (c : Code), tc_C p s m av.toArray meth c y.cls cc maxL ret D cA → va_P D vwCl ws s.heap → ∀ ls : Array Slot, lv_has ls maxL (lv_args 0 av) → W p l e (tc_R d) s m av.toArray below meth c s.heap [] 0 0 (MQ below Qc av.toArray s 0 0 A) (F0 m 0 ls [])) :
    Met l y [.code y cc maxL ret] (tc_R d) (tc_Pc D cA ws av) Qc 0 0 A := by
  refine Met.ofW (cc := cc) (maxL := maxL) (ret := ret) hy rfl ?_
  intro p e s m args below meth c s₁ B hml hv
  obtain ⟨rfl, hP, hK⟩ := hv
  rw [lg_entry_eq]
  exact body p e s m below meth c ⟨B.exec, B.bytes, hml, findClass_of_methodNamed B.named, hK, B.returns, B.notSynchronized⟩ hP _ (lv_entry av hlen)
/-! calls -/
def tc_V (own : String) (index : Nat) (y : MethodName) (bytes : ByteArray) (maxL : Nat) (ret : Option FieldType) (n : Nat) : Prop :=
  Cond.methodLink own index y ∈ tc_wA ∧ Cond.instanceMethod y ∈ tc_wA ∧ Cond.selects y.cls y y ∈ tc_wA ∧ Cond.initialized y.cls ∈ tc_wA ∧ Cond.code y bytes maxL ret ∈ tc_wA ∧ (y.cls ≠ "java/lang/invoke/MethodHandle" ∧ y.cls ≠ "java/lang/invoke/VarHandle" ∧ (parseMethodDescriptor y.desc).map (fun d => d.parameters.length) = some n)
def tc_St (own : String) (index : Nat) (y : MethodName) (bytes : ByteArray) (maxL : Nat) (ret : Option FieldType) (n : Nat) : Prop :=
  Cond.methodLink own index y ∈ tc_wA ∧ Cond.static y ∈ tc_wA ∧ Cond.initialized y.cls ∈ tc_wA ∧ Cond.code y bytes maxL ret ∈ tc_wA ∧ (y.cls ≠ "java/lang/invoke/MethodHandle" ∧ y.cls ≠ "java/lang/invoke/VarHandle" ∧ (parseMethodDescriptor y.desc).map (fun d => d.parameters.length) = some n)
section TCC
variable {p : Program} {l : Launch} {e : Env} {s : State} {m : MethodId} {args : Array Value} {below : List Frame} {meth : Method} {c : Code} {H : Heap} {locs : List Loc} {Q : State → Prop} {own : String} {cc : ByteArray} {nL : Nat} {ret rc : Option FieldType} {D : va_G} {cA : ClassId} {A : Nat → Prop} {ws ws' : va_W} {y : MethodName} {bytes : ByteArray} {maxL d d' index pc n : Nat} {b : Nat} {As rest st0 : List Value} {ls : Array Slot} {lv : List (Nat × Value)} {r : Int32}
theorem tc_cb (hN : ∀ w ∈ tc_wA, va_Nw w s) (hl : Cond.methodLink own index y ∈ tc_wA) (hi : Cond.initialized y.cls ∈ tc_wA) (hc : Cond.code y bytes maxL rc ∈ tc_wA) (hd : y.cls ≠ "java/lang/invoke/MethodHandle" ∧ y.cls ≠ "java/lang/invoke/VarHandle" ∧ (parseMethodDescriptor y.desc).map (fun d => d.parameters.length) = some n) (h1 : d' < d) (h2 : maxL ≤ 21) :
    CallB (tc_R d) s args own index y bytes maxL rc [.code y bytes maxL rc] (tc_R d') 0 0 n := by
  refine ⟨rfl, rfl, h1, ?_, fun w hw a' U hW => ?_, List.mem_singleton.mpr rfl, tc_use hN hc, tc_use hN hi, ⟨hd.1, hd.2.1⟩, fun sig h => ?_, tc_use hN hl⟩
  · show 8 + (maxL + 11) + 40 * d' ≤ 40 * d
    omega
  · rw [List.mem_singleton.mp hw]
    exact word_at (args := args) hW (Or.inl rfl) (tc_use hN hc)
  · have h3 := hd.2.2
    rw [h] at h3
    exact (Option.some.inj h3).symm
theorem tc_blind {av : List Value} : FrameBlind (tc_Pc D cA ws av) := fun _ _ _ _ q => ⟨q.1, q.2.1, tc_K_calling q.2.2⟩
theorem tc_cVi (C : tc_C p s m args meth c own cc nL ret D cA) (hM : Met l y [.code y bytes maxL rc] (tc_R d') (tc_Pc D cA ws (.ref b :: As)) (tc_Qi D ws' A r) 0 0 A) (hv : tc_V own index y bytes maxL rc As.length) (h1 : d' < d) (h2 : maxL ≤ 21) (hP : va_P D vwCl ws H) (hS : va_S A s.heap H locs) (hl : lv_has ls nL lv)
    (q0 : Nat) {ci N : Nat} {T : u_T} {fs : List Value} (he : ws[q0]? = some (b, .inr (ci, fs))) (hc : vwCl[ci]? = some (y.cls, T, N)) (hr : (rest.map fun v => v.category).sum ≤ 8) (hdg : decode cc pc = .ok (.invokevirtual index, 3)) (hst : st0 = As.reverse ++ .ref b :: rest)
    (kk : ∀ (H1 : Heap) (locs1 : List Loc), va_P D vwCl ws' H1 → va_S A s.heap H1 locs1 → W p l e (tc_R d) s m args below meth c H1 locs1 0 0 Q (F0 m (pc + 3) ls (.int r :: rest))) : W p l e (tc_R d) s m args below meth c H locs 0 0 Q (F0 m pc ls st0) := by
  obtain ⟨hx, hb, hml, hown, ⟨hK, hN⟩, hr0, hlk⟩ := C
  obtain ⟨v1, v2, v3, v4, v5, v6⟩ := hv
  refine va_calli (va_runV (Ts := []) (As := As) (rest := rest) ⟨hx, hb, hml, hown, fun _ h => absurd h List.not_mem_nil⟩ hM ⟨tc_cb hN v1 v4 v5 v6 h1 h2, tc_use hN v2, tc_use hN v3⟩ ⟨tc_blind, va_recv hK hP hc he, fun U hU hW => ⟨rfl, by rw [hU]; exact hP, tc_K_warm hW ⟨hK, hN⟩⟩⟩ rfl rfl hl.1 hst (lv_room hr) hdg ⟨Nat.le_refl _, Nat.le_refl _⟩) hS (fun _ _ h => h) (fun _ h => h) (fun r' u t H1 locs1 ht _ hp hB _ _ hS1 => ?_)
  cases hp
  exact kk H1 locs1 (ht ▸ hB) hS1
theorem tc_cVv (C : tc_C p s m args meth c own cc nL ret D cA) (hM : Met l y [.code y bytes maxL rc] (tc_R d') (tc_Pc D cA ws (.ref b :: As)) (tc_Qv D ws' A) 0 0 A) (hv : tc_V own index y bytes maxL rc As.length) (h1 : d' < d) (h2 : maxL ≤ 21) (hP : va_P D vwCl ws H) (hS : va_S A s.heap H locs) (hl : lv_has ls nL lv)
    (q0 : Nat) {ci N : Nat} {T : u_T} {fs : List Value} (he : ws[q0]? = some (b, .inr (ci, fs))) (hc : vwCl[ci]? = some (y.cls, T, N)) (hr : (rest.map fun v => v.category).sum ≤ 8) (hdg : decode cc pc = .ok (.invokevirtual index, 3)) (hst : st0 = As.reverse ++ .ref b :: rest)
    (kk : ∀ (H1 : Heap) (locs1 : List Loc), va_P D vwCl ws' H1 → va_S A s.heap H1 locs1 → W p l e (tc_R d) s m args below meth c H1 locs1 0 0 Q (F0 m (pc + 3) ls rest)) : W p l e (tc_R d) s m args below meth c H locs 0 0 Q (F0 m pc ls st0) := by
  obtain ⟨hx, hb, hml, hown, ⟨hK, hN⟩, hr0, hlk⟩ := C
  obtain ⟨v1, v2, v3, v4, v5, v6⟩ := hv
  refine va_callv (va_runV (Ts := []) (As := As) (rest := rest) ⟨hx, hb, hml, hown, fun _ h => absurd h List.not_mem_nil⟩ hM ⟨tc_cb hN v1 v4 v5 v6 h1 h2, tc_use hN v2, tc_use hN v3⟩ ⟨tc_blind, va_recv hK hP hc he, fun U hU hW => ⟨rfl, by rw [hU]; exact hP, tc_K_warm hW ⟨hK, hN⟩⟩⟩ rfl rfl hl.1 hst (lv_room hr) hdg ⟨Nat.le_refl _, Nat.le_refl _⟩) hS (fun _ _ h => h) (fun _ h => h) (fun u t H1 locs1 ht _ hp hB _ _ hS1 => ?_)
  exact kk H1 locs1 (ht ▸ hB) hS1
theorem tc_cSi (C : tc_C p s m args meth c own cc nL ret D cA) (hM : Met l y [.code y bytes maxL rc] (tc_R d') (tc_Pc D cA ws As) (tc_Qi D ws' A r) 0 0 A) (hv : tc_St own index y bytes maxL rc As.length) (h1 : d' < d) (h2 : maxL ≤ 21) (hP : va_P D vwCl ws H) (hS : va_S A s.heap H locs) (hl : lv_has ls nL lv)
    (hr : (rest.map fun v => v.category).sum ≤ 8) (hdg : decode cc pc = .ok (.invokestatic index, 3)) (hst : st0 = As.reverse ++ rest)
    (kk : ∀ (H1 : Heap) (locs1 : List Loc), va_P D vwCl ws' H1 → va_S A s.heap H1 locs1 → W p l e (tc_R d) s m args below meth c H1 locs1 0 0 Q (F0 m (pc + 3) ls (.int r :: rest))) : W p l e (tc_R d) s m args below meth c H locs 0 0 Q (F0 m pc ls st0) := by
  obtain ⟨hx, hb, hml, hown, ⟨hK, hN⟩, hr0, hlk⟩ := C
  obtain ⟨v1, v2, v4, v5, v6⟩ := hv
  refine va_calli (va_runS (Ts := []) (As := As) (rest := rest) ⟨hx, hb, hml, hown, fun _ h => absurd h List.not_mem_nil⟩ hM ⟨tc_cb hN v1 v4 v5 v6 h1 h2, tc_use hN v2⟩ ⟨tc_blind, fun U hU hW => ⟨rfl, by rw [hU]; exact hP, tc_K_warm hW ⟨hK, hN⟩⟩⟩ rfl rfl hl.1 hst (lv_room hr) hdg ⟨Nat.le_refl _, Nat.le_refl _⟩) hS (fun _ _ h => h) (fun _ h => h) (fun r' u t H1 locs1 ht _ hp hB _ _ hS1 => ?_)
  cases hp
  exact kk H1 locs1 (ht ▸ hB) hS1
end TCC
