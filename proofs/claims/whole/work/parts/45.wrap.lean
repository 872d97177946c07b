/-! METHODS WITH HANDLERS: the law's wrappers -/
abbrev RW : Room := { frames := 11, cells := 1, slots := 6, locals := 400 }
section MW
variable {p : Program} {l : Launch} {e : Env} {R : Room} {s : State} {m : MethodId} {args : Array Value} {below : List Frame} {meth : Method} {c : Code} {H : Heap} {locs : List Loc} {cells slots : Nat} {Q : State → Prop}
variable {cc : ByteArray} {pc : Nat} {ls : Array Slot} {rest st0 : List Value} {Γ : Gm} {b M : Nat} {mem : Nat → va_E} {P : (Nat → va_E) → Prop} {E : String}
theorem mw_enter {y : MethodName} {maxL : Nat} {ret : Option FieldType} {rm : Room} {av : List Value} {out : Option Value} {hd : List (Nat × Nat × Nat × Nat)} (hy : plainName y.cls = true) (hlen : (lg_sl av).length ≤ maxL)
    (body : ∀ (p : Program) (e : Env) (s : State) (m : MethodId) (args : Array Value) (below : List Frame) (meth : Method) (c : Code) (ls : Array Slot), p.tables.exec = Jvm.exec → c.code = cc → c.maxLocals = maxL → s.vm.findClass y.cls = some m.cls → meth.sig.returnType = ret → meth.locks = false → c.exceptionTable.toList = tableOf hd → EX Γ b s → GH Γ b M mem s s.heap [] → lv_has ls maxL (lv_args 0 av) →
      W p l e rm s m args below meth c s.heap [] 0 0 (MQ below (QC Γ b M P out) args s rm.cells rm.slots (fun q => b ≤ q)) (F0 m 0 ls [])) :
    Ct l y (.codeWith y cc maxL ret hd) rm Γ b M av mem P out := by
  unfold Ct Met
  refine MetFree.of_bodyS (code := cc) (maxLocals := maxL) (ret := ret) hy ?_ ?_
  · intro args s m h hn
    obtain ⟨m9, meth, c, hn9, h1, h2, h3, h4, -, h5, h6, -⟩ := Cond.codeWith_spec (atoms_spec (ws := [Cond.codeWith y cc maxL ret hd]) h _ List.mem_cons_self)
    cases hn.symm.trans hn9
    exact ⟨meth, c, h1, h2, h3, h4, h5, h6⟩
  · intro p e s m args below meth c s₁ B hml hP _
    have hh0 : s₁.heap = s.heap := by rw [B.state]; rfl
    have htab := vx_table (x := y) B (atoms_spec (ws := [Cond.codeWith y cc maxL ret hd]) B.pre _ List.mem_cons_self)
    obtain ⟨rfl, hP, hE⟩ := hP
    have hl := lv_entry av (n := maxL) hlen
    have K : W p l e rm s m av.toArray below meth c s.heap [] 0 0 (MQ below (QC Γ b M P out) av.toArray s rm.cells rm.slots (fun q => b ≤ q)) (entryFrame m av.toArray maxL) := by
      rw [lg_entry_eq]
      exact body p e s m _ below meth c _ B.exec B.bytes hml (findClass_of_methodNamed B.named) B.returns B.notSynchronized htab hE ⟨hP, va_S.rf⟩ hl
    obtain ⟨t, a1, o, b1, b2, b3⟩ := K s₁ hh0 (Stand.of_body B)
    exact ⟨t, o, a1, b1, b2, ⟨b3.1, b3.2⟩⟩
theorem mw_S {y : MethodName} {bytes : ByteArray} {maxL nL index n : Nat} {ret : Option FieldType} {own : String} {As : List Value} {rm : Room} {out : Option Value} {hd : List (Nat × Nat × Nat × Nat)} (hx : p.tables.exec = Jvm.exec) (hb : c.code = cc) (hml : c.maxLocals = nL) (hown : s.vm.findClass own = some m.cls) (hE : EX Γ b s) (hl : ls.size = nL)
    (hh : GH Γ b M mem s H locs) (cw : vx_CSW R s args own index y bytes maxL ret hd [.codeWith y bytes maxL ret hd] rm rm.cells rm.slots n) (hM : Ct l y (.codeWith y bytes maxL ret hd) rm Γ b M As mem P out) (hn : As.length = n)
    (hst : st0 = As.reverse ++ rest) (hW : (rest.map fun v => v.category).sum ≤ 8) (hdg : decode cc pc = .ok (.invokestatic index, 3)) (hf : cells + rm.cells ≤ R.cells ∧ slots + rm.slots ≤ R.slots)
    (kk : ∀ (H1 : Heap) (locs1 : List Loc) (mem1 : Nat → va_E), P mem1 → GH Γ b M mem1 s H1 locs1 → W p l e R s m args below meth c H1 locs1 (cells + rm.cells) (slots + rm.slots) Q (F0 m (pc + 3) ls (out.toList ++ rest))) : W p l e R s m args below meth c H locs cells slots Q (F0 m pc ls st0) :=
  mm_run hh (vx_runSW (As := As) (rest := rest) (Ts := []) (cc := cc) (nL := nL) ⟨hx, hb, hml, hown, fun _ h => nomatch h⟩ hM cw ⟨va_blind, fun U hU hW => ⟨rfl, hh.at hE hU hW⟩⟩ rfl hn hl hst (lv_room hW) hdg hf) kk
theorem mw_cw {own : String} {index maxL : Nat} {y : MethodName} {bytes : ByteArray} {ret : Option FieldType} {hd : List (Nat × Nat × Nat × Nat)} {rm : Room} (n : Nat) (hc : ∀ (A : Array Value) (U : State), EXg U → (Cond.codeWith y bytes maxL ret hd).before A U = true) (hE : EXg s) (hini : (Cond.initialized y.cls).before args s = true) (hl : (Cond.methodLink own index y).before args s = true) (hst : (Cond.static y).before args s = true)
    (hd2 : y.cls ≠ "java/lang/invoke/MethodHandle" ∧ y.cls ≠ "java/lang/invoke/VarHandle" ∧ (parseMethodDescriptor y.desc).map (fun d => d.parameters.length) = some n) (hR : rm.frames + 1 ≤ R.frames ∧ 8 + (maxL + 11) + rm.locals ≤ R.locals) :
    vx_CSW R s args own index y bytes maxL ret hd [.codeWith y bytes maxL ret hd] rm rm.cells rm.slots n := by
  refine ⟨⟨rfl, rfl, hR.1, hR.2, fun w hw a' U hW => ?_, List.mem_singleton.mpr rfl⟩, hc args s hE, hini, ⟨hd2.1, hd2.2.1⟩, fun sig h => ?_, hl, hst⟩
  · rw [List.mem_singleton.mp hw]; exact hc a' U (hE.warm hW)
  · have h2 := hd2.2.2
    rw [h] at h2
    exact (Option.some.inj h2).symm
/-- a call that throws, caught by this method's row x -/
theorem mw_catch {y : MethodName} {bytes : ByteArray} {maxL nL index n ci i N : Nat} {ret : Option FieldType} {own C name : String} {T : u_T} {As fs : List Value} {rm : Room} (hx : p.tables.exec = Jvm.exec) (hb : c.code = cc) (hml : c.maxLocals = nL) (hown : s.vm.findClass own = some m.cls) (hE : EX Γ b s) (hl : ls.size = nL)
    (hh : GH Γ b M mem s H locs) (cw : CallW R s args own C index y bytes maxL ret [.code y bytes maxL ret] rm rm.cells rm.slots n) (hM : Cx l y (.code y bytes maxL ret) rm Γ b M (.ref (b + i) :: As) mem E) (hc : vwCl[ci]? = some (C, T, N)) (hi : i < M) (hm : mem i = .inr (ci, fs)) (hn : As.length = n)
    (hst : st0 = As.reverse ++ .ref (b + i) :: rest) (hW : (rest.map fun v => v.category).sum ≤ 8) (hdg : decode cc pc = .ok (.invokevirtual index, 3)) (h0 : rm.cells = 1) (h1 : rm.slots = 6) (hR : 1 ≤ R.cells ∧ 6 ≤ R.slots)
    (pre : List ExceptionTableEntry) (x : ExceptionTableEntry) (suf : List ExceptionTableEntry) (hsplit : c.exceptionTable.toList = pre ++ x :: suf)
    (hpass : ∀ z ∈ pre, covers z pc = false ∨ (z.catchType ≠ 0 ∧ ∃ nm : String, (Cond.classLink own z.catchType nm).before args s = true ∧ va_Nc E nm s)) (hcov : covers x pc = true) (hct : x.catchType ≠ 0) (hlink : (Cond.classLink own x.catchType name).before args s = true) (hcast : (Cond.castable E name).before args s = true)
    (kk : ∀ (q : Nat) (H1 : Heap) (locs1 : List Loc), GH Γ b M mem s H1 locs1 → W p l e R s m args below meth c H1 locs1 1 6 Q (F0 m x.handlerPc ls [.ref q])) :
    W p l e R s m args below meth c H locs 0 0 Q (F0 m pc ls st0) := by
  have hr : vx_Run p l e R s m args below meth c H locs 0 0 rm.cells rm.slots (F0 m pc ls st0) rest (QF (Value.ref (b + i) :: As).toArray) (XE Γ b M mem E) (fun q => b ≤ q) := vx_runV (As := As) (rest := rest) (Ts := []) (cc := cc) (nL := nL) ⟨hx, hb, hml, hown, fun _ h => nomatch h⟩ hM cw ⟨va_blind, va_recv hE.1 hh.1 hc (gW_at hi hm), fun U hU hW => ⟨rfl, hh.at hE hU hW⟩⟩ rfl hn hl hst (lv_room hW) hdg ⟨by rw [h0]; omega, by rw [h1]; omega⟩
  rw [h0, h1] at hr
  intro T hT X
  rcases hr T hT X with ⟨v, st₀, t, T', L, -, -, -, -, -, hq, -⟩ | ⟨q, st₀, t, T', L, E', ce, e0, X', hL, e1, e2, ⟨rfl, hP, hz, hk⟩, hce, hcv, hcl, st⟩
  · exact hq.elim
  · rw [e0] at hz hk
    have hS := hh.2
    have hG : GH Γ b M mem s T'.heap (locs ++ L) := ⟨by rw [e1]; exact hP, Nat.le_trans hS.1 (by rw [e1]; exact hz), fun q h1 h2 => by rw [e1, hk q (Nat.lt_of_lt_of_le h1 hS.1) h2]; exact hS.2.1 q h1 h2, fun z hz => by
        rcases List.mem_append.mp hz with h | h
        · exact hS.2.2 z h
        · exact hL z h⟩
    have K := vx_catch (p := p) (l := l) (e := e) (R := R) (s := s) (m := m) (args := args) (below := below) (meth := meth) (c := c) (H := T'.heap) (locs := locs ++ L) (cells := 0 + 1) (slots := 0 + 6) (Q := Q) (pc := pc) (ls := ls) (rest := rest) hown pre x suf hsplit hpass hcov hct hlink hcast (by rw [e1]; exact hce) hcv hcl (kk q T'.heap (locs ++ L) hG)
    obtain ⟨t2, a1, b1⟩ := K T' rfl X'
    exact ⟨t2, st.trans a1, b1⟩
end MW
theorem wcL_13 {U : State} (h : EXg U) (A : Array Value) : (Cond.classLink RL 13 "java/lang/IllegalStateException").before A U = true := h _ (List.mem_of_getElem? (i := 318) (by decide +kernel)) (by decide +kernel) A
theorem wcL_19 {U : State} (h : EXg U) (A : Array Value) : (Cond.classLink RL 19 "java/lang/IndexOutOfBoundsException").before A U = true := h _ (List.mem_of_getElem? (i := 403) (by decide +kernel)) (by decide +kernel) A
theorem wcL_25 {U : State} (h : EXg U) (A : Array Value) : (Cond.classLink RL 25 "java/lang/IllegalArgumentException").before A U = true := h _ (List.mem_of_getElem? (i := 443) (by decide +kernel)) (by decide +kernel) A
theorem wcL_52 {U : State} (h : EXg U) (A : Array Value) : (Cond.classLink RL 52 "java/util/NoSuchElementException").before A U = true := h _ (List.mem_of_getElem? (i := 766) (by decide +kernel)) (by decide +kernel) A
theorem wn_L {U : State} (h : EXg U) (A : Array Value) : (Cond.initialized RL).before A U = true := h _ (List.mem_of_getElem? (i := 40) (by decide +kernel)) (by decide +kernel) A
abbrev hL_document : List (Nat × Nat × Nat × Nat) := [(0, 8, 11, 13)]
abbrev kL_document : Cond := .codeWith yL_document cL_document 3 (some .int) hL_document
theorem wdL_document {U : State} (h : EXg U) (A : Array Value) : (kL_document).before A U = true := h _ (List.mem_of_getElem? (i := 317) (by decide +kernel)) (by decide +kernel) A
theorem wlL_document {U : State} (h : EXg U) (A : Array Value) : (Cond.methodLink RL 78 yL_document).before A U = true := h _ (List.mem_of_getElem? (i := 315) (by decide +kernel)) (by decide +kernel) A
theorem wsL_document {U : State} (h : EXg U) (A : Array Value) : (Cond.static yL_document).before A U = true := h _ (List.mem_of_getElem? (i := 316) (by decide +kernel)) (by decide +kernel) A
theorem kw_document {R rm : Room} {s : State} {args : Array Value} (hE : EXg s) (hR : rm.frames + 1 ≤ R.frames ∧ 8 + (3 + 11) + rm.locals ≤ R.locals) : vx_CSW R s args RL 78 yL_document cL_document 3 (some .int) hL_document [kL_document] rm rm.cells rm.slots 2 := mw_cw 2 (fun A U h => wdL_document h A) hE (wn_L hE args) (wlL_document hE args) (wsL_document hE args) (by decide +kernel) hR
set_option maxHeartbeats 4000000 in
set_option maxRecDepth 100000 in
theorem wr_document (l : Launch) (Γ : Gm) (b M : Nat) (mem : Nat → va_E)  {fs : List Value} (hM : 138 ≤ M) (fH : mem 0 = .inr (8, fs)) {rm : Room} {r : Int32} {P : (Nat → va_E) → Prop} (hf : ∀ u0, P u0 → ∃ f : Nat → Int64, u0 136 = aJ Γ 1 f) (h0 : rm.cells = 0 ∧ rm.slots = 0) (h1 : rm.frames ≤ 10 ∧ rm.locals ≤ 360) (hc : Ct l yX9_document (.code yX9_document cX9_document 1 (some .int)) rm Γ b M [.ref (b + 0)] mem P (some (.int r))) : Ct l yL_document kL_document RW Γ b M [.ref (b + 0), .ref (b + 136)] mem (fun u => ∃ (u0 : Nat → va_E) (f : Nat → Int64), P u0 ∧ u0 136 = aJ Γ 1 f ∧ u 136 = aJ Γ 1 (va_up f 0 (r.toInt64)) ∧ ∀ j, j ≠ 136 → u j = u0 j) (some (.int (nI 0))) := by
  refine mw_enter (cc := cL_document) (by decide) (Nat.le_of_ble_eq_true rfl) ?_
  intro p e s m args below meth c ls hx hb hml hown hr hlocks htab hE hh hl
  have hl : lv_has ls 3 [(0, .ref (b + 0)), (1, .ref (b + 136))] := hl
  refine lv_aload_n hx hb dL_document_0 rfl (lv_at hl 1 rfl) ?_
  refine lv_iconst (v := (nI 0)) hx hb dL_document_1 (by decide) ?_
  refine lv_aload_n hx hb dL_document_2 rfl (lv_at hl 0 rfl) ?_
  refine mm_V0 (As := []) (rest := [.int (nI 0), .ref (b + 136)]) hx hb hml hown hE hl.1 hh (kc_L_7 hE.2.1 ⟨by show _ ≤ 11; omega, by show _ ≤ 400; omega⟩) hc rfl (by omega) fH rfl rfl (Nat.le_of_ble_eq_true rfl) dL_document_3 h0.1 h0.2 (fun H locs mem1 hP hh => ?_)
  refine lv_i2l hx hb dL_document_6 rfl ?_
  obtain ⟨f, hf1⟩ := hf mem1 hP
  refine mm_last hx hb hE hh (k := 0) (by omega) hf1 (by decide) (by decide) dL_document_7 (fun H locs mem2 e2 k2 hh => ?_)
  refine lv_goto (tgt := 14) hx hb dL_document_8 (by decide) ?_
  refine lv_iconst (v := (nI 0)) hx hb dL_document_14 (by decide) ?_
  refine W.widen (k := 1) (n := 6) (by omega) (by omega) ?_
  exact mm_iret hx hb hr hlocks hE hh rfl ⟨mem1, f, hP, hf1, e2, k2⟩ dL_document_15
set_option maxHeartbeats 4000000 in
set_option maxRecDepth 100000 in
theorem wx_document_1 (l : Launch) (Γ : Gm) (b M : Nat) (mem : Nat → va_E)  {fs : List Value} (hM : 138 ≤ M) (fH : mem 0 = .inr (8, fs)) {rm : Room} (h0 : rm.cells = 1 ∧ rm.slots = 6) (h1 : rm.frames ≤ 10 ∧ rm.locals ≤ 360) (hc : Cx l yX9_document (.code yX9_document cX9_document 1 (some .int)) rm Γ b M [.ref (b + 0)] mem "java/lang/IllegalStateException") : Ct l yL_document kL_document RW Γ b M [.ref (b + 0), .ref (b + 136)] mem (fun u => u = mem) (some (.int (nI 1))) := by
  refine mw_enter (cc := cL_document) (by decide) (Nat.le_of_ble_eq_true rfl) ?_
  intro p e s m args below meth c ls hx hb hml hown hr hlocks htab hE hh hl
  have hl : lv_has ls 3 [(0, .ref (b + 0)), (1, .ref (b + 136))] := hl
  refine lv_aload_n hx hb dL_document_0 rfl (lv_at hl 1 rfl) ?_
  refine lv_iconst (v := (nI 0)) hx hb dL_document_1 (by decide) ?_
  refine lv_aload_n hx hb dL_document_2 rfl (lv_at hl 0 rfl) ?_
  refine mw_catch (As := []) (rest := [.int (nI 0), .ref (b + 136)]) (name := "java/lang/IllegalStateException") hx hb hml hown hE hl.1 hh (kc_L_7 hE.2.1 ⟨by show _ ≤ 11; omega, by show _ ≤ 400; omega⟩) hc rfl (by omega) fH rfl rfl (Nat.le_of_ble_eq_true rfl) dL_document_3 h0.1 h0.2 ⟨Nat.le_refl _, Nat.le_refl _⟩ [] ⟨0, 8, 11, 13⟩ [] (htab.trans rfl) ?_ (by decide) (by decide) (wcL_13 hE.2.1 args) (va_tabs rfl rfl (hE.2.2.1.2.2.1 ("java/lang/IllegalStateException", "java/lang/IllegalStateException") (List.mem_of_getElem? (i := 0) rfl))) (fun q H locs hh => ?_)
  · intro z hz; exact absurd hz List.not_mem_nil
  refine lv_astore_n (lv' := [(2, .ref q), (0, .ref (b + 0)), (1, .ref (b + 136))]) hx hb dL_document_11 rfl hl (by decide) rfl (fun ls hl => ?_)
  refine lv_iconst (v := (nI 1)) hx hb dL_document_12 (by decide) ?_
  exact mm_iret hx hb hr hlocks hE hh rfl rfl dL_document_13
abbrev hL_count : List (Nat × Nat × Nat × Nat) := [(0, 10, 13, 19), (0, 10, 17, 13)]
abbrev kL_count : Cond := .codeWith yL_count cL_count 5 (some .int) hL_count
theorem wdL_count {U : State} (h : EXg U) (A : Array Value) : (kL_count).before A U = true := h _ (List.mem_of_getElem? (i := 402) (by decide +kernel)) (by decide +kernel) A
theorem wlL_count {U : State} (h : EXg U) (A : Array Value) : (Cond.methodLink RL 87 yL_count).before A U = true := h _ (List.mem_of_getElem? (i := 400) (by decide +kernel)) (by decide +kernel) A
theorem wsL_count {U : State} (h : EXg U) (A : Array Value) : (Cond.static yL_count).before A U = true := h _ (List.mem_of_getElem? (i := 401) (by decide +kernel)) (by decide +kernel) A
theorem kw_count {R rm : Room} {s : State} {args : Array Value} (hE : EXg s) (hR : rm.frames + 1 ≤ R.frames ∧ 8 + (5 + 11) + rm.locals ≤ R.locals) : vx_CSW R s args RL 87 yL_count cL_count 5 (some .int) hL_count [kL_count] rm rm.cells rm.slots 4 := mw_cw 4 (fun A U h => wdL_count h A) hE (wn_L hE args) (wlL_count hE args) (wsL_count hE args) (by decide +kernel) hR
set_option maxHeartbeats 4000000 in
set_option maxRecDepth 100000 in
theorem wr_count (l : Launch) (Γ : Gm) (b M : Nat) (mem : Nat → va_E) {v0 : Int32} {v1 : Int32} {fs : List Value} (hM : 138 ≤ M) (fH : mem 0 = .inr (8, fs)) {rm : Room} {r : Int32} {P : (Nat → va_E) → Prop} (hf : ∀ u0, P u0 → ∃ f : Nat → Int64, u0 136 = aJ Γ 1 f) (h0 : rm.cells = 0 ∧ rm.slots = 0) (h1 : rm.frames ≤ 10 ∧ rm.locals ≤ 360) (hc : Ct l yX9_count (.code yX9_count cX9_count 3 (some .int)) rm Γ b M [.ref (b + 0), .int v0, .int v1] mem P (some (.int r))) : Ct l yL_count kL_count RW Γ b M [.ref (b + 0), .int v0, .int v1, .ref (b + 136)] mem (fun u => ∃ (u0 : Nat → va_E) (f : Nat → Int64), P u0 ∧ u0 136 = aJ Γ 1 f ∧ u 136 = aJ Γ 1 (va_up f 0 (r.toInt64)) ∧ ∀ j, j ≠ 136 → u j = u0 j) (some (.int (nI 0))) := by
  refine mw_enter (cc := cL_count) (by decide) (Nat.le_of_ble_eq_true rfl) ?_
  intro p e s m args below meth c ls hx hb hml hown hr hlocks htab hE hh hl
  have hl : lv_has ls 5 [(0, .ref (b + 0)), (1, .int v0), (2, .int v1), (3, .ref (b + 136))] := hl
  refine lv_aload_n hx hb dL_count_0 rfl (lv_at hl 3 rfl) ?_
  refine lv_iconst (v := (nI 0)) hx hb dL_count_1 (by decide) ?_
  refine lv_aload_n hx hb dL_count_2 rfl (lv_at hl 0 rfl) ?_
  refine lv_iload_n hx hb dL_count_3 rfl (lv_at hl 1 rfl) ?_
  refine lv_iload_n hx hb dL_count_4 rfl (lv_at hl 2 rfl) ?_
  refine mm_V0 (As := [.int v0, .int v1]) (rest := [.int (nI 0), .ref (b + 136)]) hx hb hml hown hE hl.1 hh (kc_L_15 hE.2.1 ⟨by show _ ≤ 11; omega, by show _ ≤ 400; omega⟩) hc rfl (by omega) fH rfl rfl (Nat.le_of_ble_eq_true rfl) dL_count_5 h0.1 h0.2 (fun H locs mem1 hP hh => ?_)
  refine lv_i2l hx hb dL_count_8 rfl ?_
  obtain ⟨f, hf1⟩ := hf mem1 hP
  refine mm_last hx hb hE hh (k := 0) (by omega) hf1 (by decide) (by decide) dL_count_9 (fun H locs mem2 e2 k2 hh => ?_)
  refine lv_goto (tgt := 21) hx hb dL_count_10 (by decide) ?_
  refine lv_iconst (v := (nI 0)) hx hb dL_count_21 (by decide) ?_
  refine W.widen (k := 1) (n := 6) (by omega) (by omega) ?_
  exact mm_iret hx hb hr hlocks hE hh rfl ⟨mem1, f, hP, hf1, e2, k2⟩ dL_count_22
set_option maxHeartbeats 4000000 in
set_option maxRecDepth 100000 in
theorem wx_count_1 (l : Launch) (Γ : Gm) (b M : Nat) (mem : Nat → va_E) {v0 : Int32} {v1 : Int32} {fs : List Value} (hM : 138 ≤ M) (fH : mem 0 = .inr (8, fs)) {rm : Room} (h0 : rm.cells = 1 ∧ rm.slots = 6) (h1 : rm.frames ≤ 10 ∧ rm.locals ≤ 360) (hc : Cx l yX9_count (.code yX9_count cX9_count 3 (some .int)) rm Γ b M [.ref (b + 0), .int v0, .int v1] mem "java/lang/IndexOutOfBoundsException") : Ct l yL_count kL_count RW Γ b M [.ref (b + 0), .int v0, .int v1, .ref (b + 136)] mem (fun u => u = mem) (some (.int (nI 1))) := by
  refine mw_enter (cc := cL_count) (by decide) (Nat.le_of_ble_eq_true rfl) ?_
  intro p e s m args below meth c ls hx hb hml hown hr hlocks htab hE hh hl
  have hl : lv_has ls 5 [(0, .ref (b + 0)), (1, .int v0), (2, .int v1), (3, .ref (b + 136))] := hl
  refine lv_aload_n hx hb dL_count_0 rfl (lv_at hl 3 rfl) ?_
  refine lv_iconst (v := (nI 0)) hx hb dL_count_1 (by decide) ?_
  refine lv_aload_n hx hb dL_count_2 rfl (lv_at hl 0 rfl) ?_
  refine lv_iload_n hx hb dL_count_3 rfl (lv_at hl 1 rfl) ?_
  refine lv_iload_n hx hb dL_count_4 rfl (lv_at hl 2 rfl) ?_
  refine mw_catch (As := [.int v0, .int v1]) (rest := [.int (nI 0), .ref (b + 136)]) (name := "java/lang/IndexOutOfBoundsException") hx hb hml hown hE hl.1 hh (kc_L_15 hE.2.1 ⟨by show _ ≤ 11; omega, by show _ ≤ 400; omega⟩) hc rfl (by omega) fH rfl rfl (Nat.le_of_ble_eq_true rfl) dL_count_5 h0.1 h0.2 ⟨Nat.le_refl _, Nat.le_refl _⟩ [] ⟨0, 10, 13, 19⟩ [⟨0, 10, 17, 13⟩] (htab.trans rfl) ?_ (by decide) (by decide) (wcL_19 hE.2.1 args) (va_tabs rfl rfl (hE.2.2.1.2.2.1 ("java/lang/IndexOutOfBoundsException", "java/lang/IndexOutOfBoundsException") (List.mem_of_getElem? (i := 1) rfl))) (fun q H locs hh => ?_)
  · intro z hz; exact absurd hz List.not_mem_nil
  refine lv_astore (lv' := [(4, .ref q), (0, .ref (b + 0)), (1, .int v0), (2, .int v1), (3, .ref (b + 136))]) hx hb dL_count_13 hl (by decide) rfl (fun ls hl => ?_)
  refine lv_iconst (v := (nI 1)) hx hb dL_count_15 (by decide) ?_
  exact mm_iret hx hb hr hlocks hE hh rfl rfl dL_count_16
set_option maxHeartbeats 4000000 in
set_option maxRecDepth 100000 in
theorem wx_count_2 (l : Launch) (Γ : Gm) (b M : Nat) (mem : Nat → va_E) {v0 : Int32} {v1 : Int32} {fs : List Value} (hM : 138 ≤ M) (fH : mem 0 = .inr (8, fs)) {rm : Room} (h0 : rm.cells = 1 ∧ rm.slots = 6) (h1 : rm.frames ≤ 10 ∧ rm.locals ≤ 360) (hc : Cx l yX9_count (.code yX9_count cX9_count 3 (some .int)) rm Γ b M [.ref (b + 0), .int v0, .int v1] mem "java/lang/IllegalStateException") : Ct l yL_count kL_count RW Γ b M [.ref (b + 0), .int v0, .int v1, .ref (b + 136)] mem (fun u => u = mem) (some (.int (nI 2))) := by
  refine mw_enter (cc := cL_count) (by decide) (Nat.le_of_ble_eq_true rfl) ?_
  intro p e s m args below meth c ls hx hb hml hown hr hlocks htab hE hh hl
  have hl : lv_has ls 5 [(0, .ref (b + 0)), (1, .int v0), (2, .int v1), (3, .ref (b + 136))] := hl
  refine lv_aload_n hx hb dL_count_0 rfl (lv_at hl 3 rfl) ?_
  refine lv_iconst (v := (nI 0)) hx hb dL_count_1 (by decide) ?_
  refine lv_aload_n hx hb dL_count_2 rfl (lv_at hl 0 rfl) ?_
  refine lv_iload_n hx hb dL_count_3 rfl (lv_at hl 1 rfl) ?_
  refine lv_iload_n hx hb dL_count_4 rfl (lv_at hl 2 rfl) ?_
  refine mw_catch (As := [.int v0, .int v1]) (rest := [.int (nI 0), .ref (b + 136)]) (name := "java/lang/IllegalStateException") hx hb hml hown hE hl.1 hh (kc_L_15 hE.2.1 ⟨by show _ ≤ 11; omega, by show _ ≤ 400; omega⟩) hc rfl (by omega) fH rfl rfl (Nat.le_of_ble_eq_true rfl) dL_count_5 h0.1 h0.2 ⟨Nat.le_refl _, Nat.le_refl _⟩ [⟨0, 10, 13, 19⟩] ⟨0, 10, 17, 13⟩ [] (htab.trans rfl) ?_ (by decide) (by decide) (wcL_13 hE.2.1 args) (va_tabs rfl rfl (hE.2.2.1.2.2.1 ("java/lang/IllegalStateException", "java/lang/IllegalStateException") (List.mem_of_getElem? (i := 0) rfl))) (fun q H locs hh => ?_)
  · intro z hz
    simp only [List.mem_cons, List.not_mem_nil, or_false] at hz
    subst hz
    exact Or.inr ⟨by decide, "java/lang/IndexOutOfBoundsException", wcL_19 hE.2.1 args, hE.2.2.1.2.2.2.1 ("java/lang/IllegalStateException", "java/lang/IndexOutOfBoundsException") (List.mem_of_getElem? (i := 0) rfl)⟩
  refine lv_astore (lv' := [(4, .ref q), (0, .ref (b + 0)), (1, .int v0), (2, .int v1), (3, .ref (b + 136))]) hx hb dL_count_17 hl (by decide) rfl (fun ls hl => ?_)
  refine lv_iconst (v := (nI 2)) hx hb dL_count_19 (by decide) ?_
  exact mm_iret hx hb hr hlocks hE hh rfl rfl dL_count_20
abbrev hL_weigh : List (Nat × Nat × Nat × Nat) := [(0, 7, 10, 19), (0, 7, 14, 25)]
abbrev kL_weigh : Cond := .codeWith yL_weigh cL_weigh 5 (some .int) hL_weigh
theorem wdL_weigh {U : State} (h : EXg U) (A : Array Value) : (kL_weigh).before A U = true := h _ (List.mem_of_getElem? (i := 442) (by decide +kernel)) (by decide +kernel) A
theorem wlL_weigh {U : State} (h : EXg U) (A : Array Value) : (Cond.methodLink RL 92 yL_weigh).before A U = true := h _ (List.mem_of_getElem? (i := 440) (by decide +kernel)) (by decide +kernel) A
theorem wsL_weigh {U : State} (h : EXg U) (A : Array Value) : (Cond.static yL_weigh).before A U = true := h _ (List.mem_of_getElem? (i := 441) (by decide +kernel)) (by decide +kernel) A
theorem kw_weigh {R rm : Room} {s : State} {args : Array Value} (hE : EXg s) (hR : rm.frames + 1 ≤ R.frames ∧ 8 + (5 + 11) + rm.locals ≤ R.locals) : vx_CSW R s args RL 92 yL_weigh cL_weigh 5 (some .int) hL_weigh [kL_weigh] rm rm.cells rm.slots 4 := mw_cw 4 (fun A U h => wdL_weigh h A) hE (wn_L hE args) (wlL_weigh hE args) (wsL_weigh hE args) (by decide +kernel) hR
set_option maxHeartbeats 4000000 in
set_option maxRecDepth 100000 in
theorem wr_weigh (l : Launch) (Γ : Gm) (b M : Nat) (mem : Nat → va_E) {v0 : Int32} {v1 : Int32} {v2 : UInt32} {fs : List Value} (hM : 138 ≤ M) (fH : mem 0 = .inr (8, fs)) {rm : Room}  {P : (Nat → va_E) → Prop} (h0 : rm.cells = 0 ∧ rm.slots = 0) (h1 : rm.frames ≤ 10 ∧ rm.locals ≤ 360) (hc : Ct l yX9_weigh (.code yX9_weigh cX9_weigh 4 none) rm Γ b M [.ref (b + 0), .int v0, .int v1, .float v2] mem P none) : Ct l yL_weigh kL_weigh RW Γ b M [.ref (b + 0), .int v0, .int v1, .float v2] mem P (some (.int (nI 0))) := by
  refine mw_enter (cc := cL_weigh) (by decide) (Nat.le_of_ble_eq_true rfl) ?_
  intro p e s m args below meth c ls hx hb hml hown hr hlocks htab hE hh hl
  have hl : lv_has ls 5 [(0, .ref (b + 0)), (1, .int v0), (2, .int v1), (3, .float v2)] := hl
  refine lv_aload_n hx hb dL_weigh_0 rfl (lv_at hl 0 rfl) ?_
  refine lv_iload_n hx hb dL_weigh_1 rfl (lv_at hl 1 rfl) ?_
  refine lv_iload_n hx hb dL_weigh_2 rfl (lv_at hl 2 rfl) ?_
  refine lv_fload_n hx hb dL_weigh_3 rfl (lv_at hl 3 rfl) ?_
  refine mm_V0 (As := [.int v0, .int v1, .float v2]) (rest := []) hx hb hml hown hE hl.1 hh (kc_L_21 hE.2.1 ⟨by show _ ≤ 11; omega, by show _ ≤ 400; omega⟩) hc rfl (by omega) fH rfl rfl (Nat.le_of_ble_eq_true rfl) dL_weigh_4 h0.1 h0.2 (fun H locs mem1 hP hh => ?_)
  refine lv_goto (tgt := 18) hx hb dL_weigh_7 (by decide) ?_
  refine lv_iconst (v := (nI 0)) hx hb dL_weigh_18 (by decide) ?_
  refine W.widen (k := 1) (n := 6) (by omega) (by omega) ?_
  exact mm_iret hx hb hr hlocks hE hh rfl hP dL_weigh_19
set_option maxHeartbeats 4000000 in
set_option maxRecDepth 100000 in
theorem wx_weigh_1 (l : Launch) (Γ : Gm) (b M : Nat) (mem : Nat → va_E) {v0 : Int32} {v1 : Int32} {v2 : UInt32} {fs : List Value} (hM : 138 ≤ M) (fH : mem 0 = .inr (8, fs)) {rm : Room} (h0 : rm.cells = 1 ∧ rm.slots = 6) (h1 : rm.frames ≤ 10 ∧ rm.locals ≤ 360) (hc : Cx l yX9_weigh (.code yX9_weigh cX9_weigh 4 none) rm Γ b M [.ref (b + 0), .int v0, .int v1, .float v2] mem "java/lang/IndexOutOfBoundsException") : Ct l yL_weigh kL_weigh RW Γ b M [.ref (b + 0), .int v0, .int v1, .float v2] mem (fun u => u = mem) (some (.int (nI 1))) := by
  refine mw_enter (cc := cL_weigh) (by decide) (Nat.le_of_ble_eq_true rfl) ?_
  intro p e s m args below meth c ls hx hb hml hown hr hlocks htab hE hh hl
  have hl : lv_has ls 5 [(0, .ref (b + 0)), (1, .int v0), (2, .int v1), (3, .float v2)] := hl
  refine lv_aload_n hx hb dL_weigh_0 rfl (lv_at hl 0 rfl) ?_
  refine lv_iload_n hx hb dL_weigh_1 rfl (lv_at hl 1 rfl) ?_
  refine lv_iload_n hx hb dL_weigh_2 rfl (lv_at hl 2 rfl) ?_
  refine lv_fload_n hx hb dL_weigh_3 rfl (lv_at hl 3 rfl) ?_
  refine mw_catch (As := [.int v0, .int v1, .float v2]) (rest := []) (name := "java/lang/IndexOutOfBoundsException") hx hb hml hown hE hl.1 hh (kc_L_21 hE.2.1 ⟨by show _ ≤ 11; omega, by show _ ≤ 400; omega⟩) hc rfl (by omega) fH rfl rfl (Nat.le_of_ble_eq_true rfl) dL_weigh_4 h0.1 h0.2 ⟨Nat.le_refl _, Nat.le_refl _⟩ [] ⟨0, 7, 10, 19⟩ [⟨0, 7, 14, 25⟩] (htab.trans rfl) ?_ (by decide) (by decide) (wcL_19 hE.2.1 args) (va_tabs rfl rfl (hE.2.2.1.2.2.1 ("java/lang/IndexOutOfBoundsException", "java/lang/IndexOutOfBoundsException") (List.mem_of_getElem? (i := 1) rfl))) (fun q H locs hh => ?_)
  · intro z hz; exact absurd hz List.not_mem_nil
  refine lv_astore (lv' := [(4, .ref q), (0, .ref (b + 0)), (1, .int v0), (2, .int v1), (3, .float v2)]) hx hb dL_weigh_10 hl (by decide) rfl (fun ls hl => ?_)
  refine lv_iconst (v := (nI 1)) hx hb dL_weigh_12 (by decide) ?_
  exact mm_iret hx hb hr hlocks hE hh rfl rfl dL_weigh_13
set_option maxHeartbeats 4000000 in
set_option maxRecDepth 100000 in
theorem wx_weigh_2 (l : Launch) (Γ : Gm) (b M : Nat) (mem : Nat → va_E) {v0 : Int32} {v1 : Int32} {v2 : UInt32} {fs : List Value} (hM : 138 ≤ M) (fH : mem 0 = .inr (8, fs)) {rm : Room} (h0 : rm.cells = 1 ∧ rm.slots = 6) (h1 : rm.frames ≤ 10 ∧ rm.locals ≤ 360) (hc : Cx l yX9_weigh (.code yX9_weigh cX9_weigh 4 none) rm Γ b M [.ref (b + 0), .int v0, .int v1, .float v2] mem "java/lang/IllegalArgumentException") : Ct l yL_weigh kL_weigh RW Γ b M [.ref (b + 0), .int v0, .int v1, .float v2] mem (fun u => u = mem) (some (.int (nI 2))) := by
  refine mw_enter (cc := cL_weigh) (by decide) (Nat.le_of_ble_eq_true rfl) ?_
  intro p e s m args below meth c ls hx hb hml hown hr hlocks htab hE hh hl
  have hl : lv_has ls 5 [(0, .ref (b + 0)), (1, .int v0), (2, .int v1), (3, .float v2)] := hl
  refine lv_aload_n hx hb dL_weigh_0 rfl (lv_at hl 0 rfl) ?_
  refine lv_iload_n hx hb dL_weigh_1 rfl (lv_at hl 1 rfl) ?_
  refine lv_iload_n hx hb dL_weigh_2 rfl (lv_at hl 2 rfl) ?_
  refine lv_fload_n hx hb dL_weigh_3 rfl (lv_at hl 3 rfl) ?_
  refine mw_catch (As := [.int v0, .int v1, .float v2]) (rest := []) (name := "java/lang/IllegalArgumentException") hx hb hml hown hE hl.1 hh (kc_L_21 hE.2.1 ⟨by show _ ≤ 11; omega, by show _ ≤ 400; omega⟩) hc rfl (by omega) fH rfl rfl (Nat.le_of_ble_eq_true rfl) dL_weigh_4 h0.1 h0.2 ⟨Nat.le_refl _, Nat.le_refl _⟩ [⟨0, 7, 10, 19⟩] ⟨0, 7, 14, 25⟩ [] (htab.trans rfl) ?_ (by decide) (by decide) (wcL_25 hE.2.1 args) (va_tabs rfl rfl (hE.2.2.1.2.2.1 ("java/lang/IllegalArgumentException", "java/lang/IllegalArgumentException") (List.mem_of_getElem? (i := 2) rfl))) (fun q H locs hh => ?_)
  · intro z hz
    simp only [List.mem_cons, List.not_mem_nil, or_false] at hz
    subst hz
    exact Or.inr ⟨by decide, "java/lang/IndexOutOfBoundsException", wcL_19 hE.2.1 args, hE.2.2.1.2.2.2.1 ("java/lang/IllegalArgumentException", "java/lang/IndexOutOfBoundsException") (List.mem_of_getElem? (i := 7) rfl)⟩
  refine lv_astore (lv' := [(4, .ref q), (0, .ref (b + 0)), (1, .int v0), (2, .int v1), (3, .float v2)]) hx hb dL_weigh_14 hl (by decide) rfl (fun ls hl => ?_)
  refine lv_iconst (v := (nI 2)) hx hb dL_weigh_16 (by decide) ?_
  exact mm_iret hx hb hr hlocks hE hh rfl rfl dL_weigh_17
abbrev hL_token : List (Nat × Nat × Nat × Nat) := [(0, 16, 19, 19), (0, 16, 23, 25), (0, 16, 27, 13)]
abbrev kL_token : Cond := .codeWith yL_token cL_token 8 (some .int) hL_token
theorem wdL_token {U : State} (h : EXg U) (A : Array Value) : (kL_token).before A U = true := h _ (List.mem_of_getElem? (i := 475) (by decide +kernel)) (by decide +kernel) A
theorem wlL_token {U : State} (h : EXg U) (A : Array Value) : (Cond.methodLink RL 96 yL_token).before A U = true := h _ (List.mem_of_getElem? (i := 473) (by decide +kernel)) (by decide +kernel) A
theorem wsL_token {U : State} (h : EXg U) (A : Array Value) : (Cond.static yL_token).before A U = true := h _ (List.mem_of_getElem? (i := 474) (by decide +kernel)) (by decide +kernel) A
theorem kw_token {R rm : Room} {s : State} {args : Array Value} (hE : EXg s) (hR : rm.frames + 1 ≤ R.frames ∧ 8 + (8 + 11) + rm.locals ≤ R.locals) : vx_CSW R s args RL 96 yL_token cL_token 8 (some .int) hL_token [kL_token] rm rm.cells rm.slots 7 := mw_cw 7 (fun A U h => wdL_token h A) hE (wn_L hE args) (wlL_token hE args) (wsL_token hE args) (by decide +kernel) hR
set_option maxHeartbeats 4000000 in
set_option maxRecDepth 100000 in
theorem wr_token (l : Launch) (Γ : Gm) (b M : Nat) (mem : Nat → va_E) {v0 : Int32} {v1 : UInt32} {v2 : UInt32} {v3 : UInt32} {v4 : UInt32} {fs : List Value} (hM : 138 ≤ M) (fH : mem 0 = .inr (8, fs)) {rm : Room} {r : Int32} {P : (Nat → va_E) → Prop} (hf : ∀ u0, P u0 → ∃ f : Nat → Int64, u0 136 = aJ Γ 1 f) (h0 : rm.cells = 0 ∧ rm.slots = 0) (h1 : rm.frames ≤ 10 ∧ rm.locals ≤ 360) (hc : Ct l yX9_token (.code yX9_token cX9_token 7 (some .int)) rm Γ b M [.ref (b + 0), .int v0, .float v1, .float v2, .float v3, .float v4] mem P (some (.int r))) : Ct l yL_token kL_token RW Γ b M [.ref (b + 0), .int v0, .float v1, .float v2, .float v3, .float v4, .ref (b + 136)] mem (fun u => ∃ (u0 : Nat → va_E) (f : Nat → Int64), P u0 ∧ u0 136 = aJ Γ 1 f ∧ u 136 = aJ Γ 1 (va_up f 0 (r.toInt64)) ∧ ∀ j, j ≠ 136 → u j = u0 j) (some (.int (nI 0))) := by
  refine mw_enter (cc := cL_token) (by decide) (Nat.le_of_ble_eq_true rfl) ?_
  intro p e s m args below meth c ls hx hb hml hown hr hlocks htab hE hh hl
  have hl : lv_has ls 8 [(0, .ref (b + 0)), (1, .int v0), (2, .float v1), (3, .float v2), (4, .float v3), (5, .float v4), (6, .ref (b + 136))] := hl
  refine lv_aload hx hb dL_token_0 (lv_at hl 6 rfl) ?_
  refine lv_iconst (v := (nI 0)) hx hb dL_token_2 (by decide) ?_
  refine lv_aload_n hx hb dL_token_3 rfl (lv_at hl 0 rfl) ?_
  refine lv_iload_n hx hb dL_token_4 rfl (lv_at hl 1 rfl) ?_
  refine lv_fload_n hx hb dL_token_5 rfl (lv_at hl 2 rfl) ?_
  refine lv_fload_n hx hb dL_token_6 rfl (lv_at hl 3 rfl) ?_
  refine lv_fload hx hb dL_token_7 (lv_at hl 4 rfl) ?_
  refine lv_fload hx hb dL_token_9 (lv_at hl 5 rfl) ?_
  refine mm_V0 (As := [.int v0, .float v1, .float v2, .float v3, .float v4]) (rest := [.int (nI 0), .ref (b + 136)]) hx hb hml hown hE hl.1 hh (kc_L_27 hE.2.1 ⟨by show _ ≤ 11; omega, by show _ ≤ 400; omega⟩) hc rfl (by omega) fH rfl rfl (Nat.le_of_ble_eq_true rfl) dL_token_11 h0.1 h0.2 (fun H locs mem1 hP hh => ?_)
  refine lv_i2l hx hb dL_token_14 rfl ?_
  obtain ⟨f, hf1⟩ := hf mem1 hP
  refine mm_last hx hb hE hh (k := 0) (by omega) hf1 (by decide) (by decide) dL_token_15 (fun H locs mem2 e2 k2 hh => ?_)
  refine lv_goto (tgt := 31) hx hb dL_token_16 (by decide) ?_
  refine lv_iconst (v := (nI 0)) hx hb dL_token_31 (by decide) ?_
  refine W.widen (k := 1) (n := 6) (by omega) (by omega) ?_
  exact mm_iret hx hb hr hlocks hE hh rfl ⟨mem1, f, hP, hf1, e2, k2⟩ dL_token_32
set_option maxHeartbeats 4000000 in
set_option maxRecDepth 100000 in
theorem wx_token_1 (l : Launch) (Γ : Gm) (b M : Nat) (mem : Nat → va_E) {v0 : Int32} {v1 : UInt32} {v2 : UInt32} {v3 : UInt32} {v4 : UInt32} {fs : List Value} (hM : 138 ≤ M) (fH : mem 0 = .inr (8, fs)) {rm : Room} (h0 : rm.cells = 1 ∧ rm.slots = 6) (h1 : rm.frames ≤ 10 ∧ rm.locals ≤ 360) (hc : Cx l yX9_token (.code yX9_token cX9_token 7 (some .int)) rm Γ b M [.ref (b + 0), .int v0, .float v1, .float v2, .float v3, .float v4] mem "java/lang/IndexOutOfBoundsException") : Ct l yL_token kL_token RW Γ b M [.ref (b + 0), .int v0, .float v1, .float v2, .float v3, .float v4, .ref (b + 136)] mem (fun u => u = mem) (some (.int (nI 1))) := by
  refine mw_enter (cc := cL_token) (by decide) (Nat.le_of_ble_eq_true rfl) ?_
  intro p e s m args below meth c ls hx hb hml hown hr hlocks htab hE hh hl
  have hl : lv_has ls 8 [(0, .ref (b + 0)), (1, .int v0), (2, .float v1), (3, .float v2), (4, .float v3), (5, .float v4), (6, .ref (b + 136))] := hl
  refine lv_aload hx hb dL_token_0 (lv_at hl 6 rfl) ?_
  refine lv_iconst (v := (nI 0)) hx hb dL_token_2 (by decide) ?_
  refine lv_aload_n hx hb dL_token_3 rfl (lv_at hl 0 rfl) ?_
  refine lv_iload_n hx hb dL_token_4 rfl (lv_at hl 1 rfl) ?_
  refine lv_fload_n hx hb dL_token_5 rfl (lv_at hl 2 rfl) ?_
  refine lv_fload_n hx hb dL_token_6 rfl (lv_at hl 3 rfl) ?_
  refine lv_fload hx hb dL_token_7 (lv_at hl 4 rfl) ?_
  refine lv_fload hx hb dL_token_9 (lv_at hl 5 rfl) ?_
  refine mw_catch (As := [.int v0, .float v1, .float v2, .float v3, .float v4]) (rest := [.int (nI 0), .ref (b + 136)]) (name := "java/lang/IndexOutOfBoundsException") hx hb hml hown hE hl.1 hh (kc_L_27 hE.2.1 ⟨by show _ ≤ 11; omega, by show _ ≤ 400; omega⟩) hc rfl (by omega) fH rfl rfl (Nat.le_of_ble_eq_true rfl) dL_token_11 h0.1 h0.2 ⟨Nat.le_refl _, Nat.le_refl _⟩ [] ⟨0, 16, 19, 19⟩ [⟨0, 16, 23, 25⟩, ⟨0, 16, 27, 13⟩] (htab.trans rfl) ?_ (by decide) (by decide) (wcL_19 hE.2.1 args) (va_tabs rfl rfl (hE.2.2.1.2.2.1 ("java/lang/IndexOutOfBoundsException", "java/lang/IndexOutOfBoundsException") (List.mem_of_getElem? (i := 1) rfl))) (fun q H locs hh => ?_)
  · intro z hz; exact absurd hz List.not_mem_nil
  refine lv_astore (lv' := [(7, .ref q), (0, .ref (b + 0)), (1, .int v0), (2, .float v1), (3, .float v2), (4, .float v3), (5, .float v4), (6, .ref (b + 136))]) hx hb dL_token_19 hl (by decide) rfl (fun ls hl => ?_)
  refine lv_iconst (v := (nI 1)) hx hb dL_token_21 (by decide) ?_
  exact mm_iret hx hb hr hlocks hE hh rfl rfl dL_token_22
set_option maxHeartbeats 4000000 in
set_option maxRecDepth 100000 in
theorem wx_token_2 (l : Launch) (Γ : Gm) (b M : Nat) (mem : Nat → va_E) {v0 : Int32} {v1 : UInt32} {v2 : UInt32} {v3 : UInt32} {v4 : UInt32} {fs : List Value} (hM : 138 ≤ M) (fH : mem 0 = .inr (8, fs)) {rm : Room} (h0 : rm.cells = 1 ∧ rm.slots = 6) (h1 : rm.frames ≤ 10 ∧ rm.locals ≤ 360) (hc : Cx l yX9_token (.code yX9_token cX9_token 7 (some .int)) rm Γ b M [.ref (b + 0), .int v0, .float v1, .float v2, .float v3, .float v4] mem "java/lang/IllegalArgumentException") : Ct l yL_token kL_token RW Γ b M [.ref (b + 0), .int v0, .float v1, .float v2, .float v3, .float v4, .ref (b + 136)] mem (fun u => u = mem) (some (.int (nI 2))) := by
  refine mw_enter (cc := cL_token) (by decide) (Nat.le_of_ble_eq_true rfl) ?_
  intro p e s m args below meth c ls hx hb hml hown hr hlocks htab hE hh hl
  have hl : lv_has ls 8 [(0, .ref (b + 0)), (1, .int v0), (2, .float v1), (3, .float v2), (4, .float v3), (5, .float v4), (6, .ref (b + 136))] := hl
  refine lv_aload hx hb dL_token_0 (lv_at hl 6 rfl) ?_
  refine lv_iconst (v := (nI 0)) hx hb dL_token_2 (by decide) ?_
  refine lv_aload_n hx hb dL_token_3 rfl (lv_at hl 0 rfl) ?_
  refine lv_iload_n hx hb dL_token_4 rfl (lv_at hl 1 rfl) ?_
  refine lv_fload_n hx hb dL_token_5 rfl (lv_at hl 2 rfl) ?_
  refine lv_fload_n hx hb dL_token_6 rfl (lv_at hl 3 rfl) ?_
  refine lv_fload hx hb dL_token_7 (lv_at hl 4 rfl) ?_
  refine lv_fload hx hb dL_token_9 (lv_at hl 5 rfl) ?_
  refine mw_catch (As := [.int v0, .float v1, .float v2, .float v3, .float v4]) (rest := [.int (nI 0), .ref (b + 136)]) (name := "java/lang/IllegalArgumentException") hx hb hml hown hE hl.1 hh (kc_L_27 hE.2.1 ⟨by show _ ≤ 11; omega, by show _ ≤ 400; omega⟩) hc rfl (by omega) fH rfl rfl (Nat.le_of_ble_eq_true rfl) dL_token_11 h0.1 h0.2 ⟨Nat.le_refl _, Nat.le_refl _⟩ [⟨0, 16, 19, 19⟩] ⟨0, 16, 23, 25⟩ [⟨0, 16, 27, 13⟩] (htab.trans rfl) ?_ (by decide) (by decide) (wcL_25 hE.2.1 args) (va_tabs rfl rfl (hE.2.2.1.2.2.1 ("java/lang/IllegalArgumentException", "java/lang/IllegalArgumentException") (List.mem_of_getElem? (i := 2) rfl))) (fun q H locs hh => ?_)
  · intro z hz
    simp only [List.mem_cons, List.not_mem_nil, or_false] at hz
    subst hz
    exact Or.inr ⟨by decide, "java/lang/IndexOutOfBoundsException", wcL_19 hE.2.1 args, hE.2.2.1.2.2.2.1 ("java/lang/IllegalArgumentException", "java/lang/IndexOutOfBoundsException") (List.mem_of_getElem? (i := 7) rfl)⟩
  refine lv_astore (lv' := [(7, .ref q), (0, .ref (b + 0)), (1, .int v0), (2, .float v1), (3, .float v2), (4, .float v3), (5, .float v4), (6, .ref (b + 136))]) hx hb dL_token_23 hl (by decide) rfl (fun ls hl => ?_)
  refine lv_iconst (v := (nI 2)) hx hb dL_token_25 (by decide) ?_
  exact mm_iret hx hb hr hlocks hE hh rfl rfl dL_token_26
set_option maxHeartbeats 4000000 in
set_option maxRecDepth 100000 in
theorem wx_token_3 (l : Launch) (Γ : Gm) (b M : Nat) (mem : Nat → va_E) {v0 : Int32} {v1 : UInt32} {v2 : UInt32} {v3 : UInt32} {v4 : UInt32} {fs : List Value} (hM : 138 ≤ M) (fH : mem 0 = .inr (8, fs)) {rm : Room} (h0 : rm.cells = 1 ∧ rm.slots = 6) (h1 : rm.frames ≤ 10 ∧ rm.locals ≤ 360) (hc : Cx l yX9_token (.code yX9_token cX9_token 7 (some .int)) rm Γ b M [.ref (b + 0), .int v0, .float v1, .float v2, .float v3, .float v4] mem "java/lang/IllegalStateException") : Ct l yL_token kL_token RW Γ b M [.ref (b + 0), .int v0, .float v1, .float v2, .float v3, .float v4, .ref (b + 136)] mem (fun u => u = mem) (some (.int (nI 3))) := by
  refine mw_enter (cc := cL_token) (by decide) (Nat.le_of_ble_eq_true rfl) ?_
  intro p e s m args below meth c ls hx hb hml hown hr hlocks htab hE hh hl
  have hl : lv_has ls 8 [(0, .ref (b + 0)), (1, .int v0), (2, .float v1), (3, .float v2), (4, .float v3), (5, .float v4), (6, .ref (b + 136))] := hl
  refine lv_aload hx hb dL_token_0 (lv_at hl 6 rfl) ?_
  refine lv_iconst (v := (nI 0)) hx hb dL_token_2 (by decide) ?_
  refine lv_aload_n hx hb dL_token_3 rfl (lv_at hl 0 rfl) ?_
  refine lv_iload_n hx hb dL_token_4 rfl (lv_at hl 1 rfl) ?_
  refine lv_fload_n hx hb dL_token_5 rfl (lv_at hl 2 rfl) ?_
  refine lv_fload_n hx hb dL_token_6 rfl (lv_at hl 3 rfl) ?_
  refine lv_fload hx hb dL_token_7 (lv_at hl 4 rfl) ?_
  refine lv_fload hx hb dL_token_9 (lv_at hl 5 rfl) ?_
  refine mw_catch (As := [.int v0, .float v1, .float v2, .float v3, .float v4]) (rest := [.int (nI 0), .ref (b + 136)]) (name := "java/lang/IllegalStateException") hx hb hml hown hE hl.1 hh (kc_L_27 hE.2.1 ⟨by show _ ≤ 11; omega, by show _ ≤ 400; omega⟩) hc rfl (by omega) fH rfl rfl (Nat.le_of_ble_eq_true rfl) dL_token_11 h0.1 h0.2 ⟨Nat.le_refl _, Nat.le_refl _⟩ [⟨0, 16, 19, 19⟩, ⟨0, 16, 23, 25⟩] ⟨0, 16, 27, 13⟩ [] (htab.trans rfl) ?_ (by decide) (by decide) (wcL_13 hE.2.1 args) (va_tabs rfl rfl (hE.2.2.1.2.2.1 ("java/lang/IllegalStateException", "java/lang/IllegalStateException") (List.mem_of_getElem? (i := 0) rfl))) (fun q H locs hh => ?_)
  · intro z hz
    simp only [List.mem_cons, List.not_mem_nil, or_false] at hz
    rcases hz with rfl | rfl
    · exact Or.inr ⟨by decide, "java/lang/IndexOutOfBoundsException", wcL_19 hE.2.1 args, hE.2.2.1.2.2.2.1 ("java/lang/IllegalStateException", "java/lang/IndexOutOfBoundsException") (List.mem_of_getElem? (i := 0) rfl)⟩
    · exact Or.inr ⟨by decide, "java/lang/IllegalArgumentException", wcL_25 hE.2.1 args, hE.2.2.1.2.2.2.1 ("java/lang/IllegalStateException", "java/lang/IllegalArgumentException") (List.mem_of_getElem? (i := 1) rfl)⟩
  refine lv_astore (lv' := [(7, .ref q), (0, .ref (b + 0)), (1, .int v0), (2, .float v1), (3, .float v2), (4, .float v3), (5, .float v4), (6, .ref (b + 136))]) hx hb dL_token_27 hl (by decide) rfl (fun ls hl => ?_)
  refine lv_iconst (v := (nI 3)) hx hb dL_token_29 (by decide) ?_
  exact mm_iret hx hb hr hlocks hE hh rfl rfl dL_token_30
abbrev hL_centroid : List (Nat × Nat × Nat × Nat) := [(0, 14, 17, 25), (0, 14, 21, 13)]
abbrev kL_centroid : Cond := .codeWith yL_centroid cL_centroid 7 (some .int) hL_centroid
theorem wdL_centroid {U : State} (h : EXg U) (A : Array Value) : (kL_centroid).before A U = true := h _ (List.mem_of_getElem? (i := 500) (by decide +kernel)) (by decide +kernel) A
theorem wlL_centroid {U : State} (h : EXg U) (A : Array Value) : (Cond.methodLink RL 100 yL_centroid).before A U = true := h _ (List.mem_of_getElem? (i := 498) (by decide +kernel)) (by decide +kernel) A
theorem wsL_centroid {U : State} (h : EXg U) (A : Array Value) : (Cond.static yL_centroid).before A U = true := h _ (List.mem_of_getElem? (i := 499) (by decide +kernel)) (by decide +kernel) A
theorem kw_centroid {R rm : Room} {s : State} {args : Array Value} (hE : EXg s) (hR : rm.frames + 1 ≤ R.frames ∧ 8 + (7 + 11) + rm.locals ≤ R.locals) : vx_CSW R s args RL 100 yL_centroid cL_centroid 7 (some .int) hL_centroid [kL_centroid] rm rm.cells rm.slots 6 := mw_cw 6 (fun A U h => wdL_centroid h A) hE (wn_L hE args) (wlL_centroid hE args) (wsL_centroid hE args) (by decide +kernel) hR
set_option maxHeartbeats 4000000 in
set_option maxRecDepth 100000 in
theorem wr_centroid (l : Launch) (Γ : Gm) (b M : Nat) (mem : Nat → va_E) {v0 : UInt32} {v1 : UInt32} {v2 : UInt32} {v3 : UInt32} {fs : List Value} (hM : 138 ≤ M) (fH : mem 0 = .inr (8, fs)) {rm : Room} {r : Int32} {P : (Nat → va_E) → Prop} (hf : ∀ u0, P u0 → ∃ f : Nat → Int64, u0 136 = aJ Γ 1 f) (h0 : rm.cells = 0 ∧ rm.slots = 0) (h1 : rm.frames ≤ 10 ∧ rm.locals ≤ 360) (hc : Ct l yX9_centroid (.code yX9_centroid cX9_centroid 5 (some .int)) rm Γ b M [.ref (b + 0), .float v0, .float v1, .float v2, .float v3] mem P (some (.int r))) : Ct l yL_centroid kL_centroid RW Γ b M [.ref (b + 0), .float v0, .float v1, .float v2, .float v3, .ref (b + 136)] mem (fun u => ∃ (u0 : Nat → va_E) (f : Nat → Int64), P u0 ∧ u0 136 = aJ Γ 1 f ∧ u 136 = aJ Γ 1 (va_up f 0 (r.toInt64)) ∧ ∀ j, j ≠ 136 → u j = u0 j) (some (.int (nI 0))) := by
  refine mw_enter (cc := cL_centroid) (by decide) (Nat.le_of_ble_eq_true rfl) ?_
  intro p e s m args below meth c ls hx hb hml hown hr hlocks htab hE hh hl
  have hl : lv_has ls 7 [(0, .ref (b + 0)), (1, .float v0), (2, .float v1), (3, .float v2), (4, .float v3), (5, .ref (b + 136))] := hl
  refine lv_aload hx hb dL_centroid_0 (lv_at hl 5 rfl) ?_
  refine lv_iconst (v := (nI 0)) hx hb dL_centroid_2 (by decide) ?_
  refine lv_aload_n hx hb dL_centroid_3 rfl (lv_at hl 0 rfl) ?_
  refine lv_fload_n hx hb dL_centroid_4 rfl (lv_at hl 1 rfl) ?_
  refine lv_fload_n hx hb dL_centroid_5 rfl (lv_at hl 2 rfl) ?_
  refine lv_fload_n hx hb dL_centroid_6 rfl (lv_at hl 3 rfl) ?_
  refine lv_fload hx hb dL_centroid_7 (lv_at hl 4 rfl) ?_
  refine mm_V0 (As := [.float v0, .float v1, .float v2, .float v3]) (rest := [.int (nI 0), .ref (b + 136)]) hx hb hml hown hE hl.1 hh (kc_L_31 hE.2.1 ⟨by show _ ≤ 11; omega, by show _ ≤ 400; omega⟩) hc rfl (by omega) fH rfl rfl (Nat.le_of_ble_eq_true rfl) dL_centroid_9 h0.1 h0.2 (fun H locs mem1 hP hh => ?_)
  refine lv_i2l hx hb dL_centroid_12 rfl ?_
  obtain ⟨f, hf1⟩ := hf mem1 hP
  refine mm_last hx hb hE hh (k := 0) (by omega) hf1 (by decide) (by decide) dL_centroid_13 (fun H locs mem2 e2 k2 hh => ?_)
  refine lv_goto (tgt := 25) hx hb dL_centroid_14 (by decide) ?_
  refine lv_iconst (v := (nI 0)) hx hb dL_centroid_25 (by decide) ?_
  refine W.widen (k := 1) (n := 6) (by omega) (by omega) ?_
  exact mm_iret hx hb hr hlocks hE hh rfl ⟨mem1, f, hP, hf1, e2, k2⟩ dL_centroid_26
set_option maxHeartbeats 4000000 in
set_option maxRecDepth 100000 in
theorem wx_centroid_1 (l : Launch) (Γ : Gm) (b M : Nat) (mem : Nat → va_E) {v0 : UInt32} {v1 : UInt32} {v2 : UInt32} {v3 : UInt32} {fs : List Value} (hM : 138 ≤ M) (fH : mem 0 = .inr (8, fs)) {rm : Room} (h0 : rm.cells = 1 ∧ rm.slots = 6) (h1 : rm.frames ≤ 10 ∧ rm.locals ≤ 360) (hc : Cx l yX9_centroid (.code yX9_centroid cX9_centroid 5 (some .int)) rm Γ b M [.ref (b + 0), .float v0, .float v1, .float v2, .float v3] mem "java/lang/IllegalArgumentException") : Ct l yL_centroid kL_centroid RW Γ b M [.ref (b + 0), .float v0, .float v1, .float v2, .float v3, .ref (b + 136)] mem (fun u => u = mem) (some (.int (nI 1))) := by
  refine mw_enter (cc := cL_centroid) (by decide) (Nat.le_of_ble_eq_true rfl) ?_
  intro p e s m args below meth c ls hx hb hml hown hr hlocks htab hE hh hl
  have hl : lv_has ls 7 [(0, .ref (b + 0)), (1, .float v0), (2, .float v1), (3, .float v2), (4, .float v3), (5, .ref (b + 136))] := hl
  refine lv_aload hx hb dL_centroid_0 (lv_at hl 5 rfl) ?_
  refine lv_iconst (v := (nI 0)) hx hb dL_centroid_2 (by decide) ?_
  refine lv_aload_n hx hb dL_centroid_3 rfl (lv_at hl 0 rfl) ?_
  refine lv_fload_n hx hb dL_centroid_4 rfl (lv_at hl 1 rfl) ?_
  refine lv_fload_n hx hb dL_centroid_5 rfl (lv_at hl 2 rfl) ?_
  refine lv_fload_n hx hb dL_centroid_6 rfl (lv_at hl 3 rfl) ?_
  refine lv_fload hx hb dL_centroid_7 (lv_at hl 4 rfl) ?_
  refine mw_catch (As := [.float v0, .float v1, .float v2, .float v3]) (rest := [.int (nI 0), .ref (b + 136)]) (name := "java/lang/IllegalArgumentException") hx hb hml hown hE hl.1 hh (kc_L_31 hE.2.1 ⟨by show _ ≤ 11; omega, by show _ ≤ 400; omega⟩) hc rfl (by omega) fH rfl rfl (Nat.le_of_ble_eq_true rfl) dL_centroid_9 h0.1 h0.2 ⟨Nat.le_refl _, Nat.le_refl _⟩ [] ⟨0, 14, 17, 25⟩ [⟨0, 14, 21, 13⟩] (htab.trans rfl) ?_ (by decide) (by decide) (wcL_25 hE.2.1 args) (va_tabs rfl rfl (hE.2.2.1.2.2.1 ("java/lang/IllegalArgumentException", "java/lang/IllegalArgumentException") (List.mem_of_getElem? (i := 2) rfl))) (fun q H locs hh => ?_)
  · intro z hz; exact absurd hz List.not_mem_nil
  refine lv_astore (lv' := [(6, .ref q), (0, .ref (b + 0)), (1, .float v0), (2, .float v1), (3, .float v2), (4, .float v3), (5, .ref (b + 136))]) hx hb dL_centroid_17 hl (by decide) rfl (fun ls hl => ?_)
  refine lv_iconst (v := (nI 1)) hx hb dL_centroid_19 (by decide) ?_
  exact mm_iret hx hb hr hlocks hE hh rfl rfl dL_centroid_20
set_option maxHeartbeats 4000000 in
set_option maxRecDepth 100000 in
theorem wx_centroid_2 (l : Launch) (Γ : Gm) (b M : Nat) (mem : Nat → va_E) {v0 : UInt32} {v1 : UInt32} {v2 : UInt32} {v3 : UInt32} {fs : List Value} (hM : 138 ≤ M) (fH : mem 0 = .inr (8, fs)) {rm : Room} (h0 : rm.cells = 1 ∧ rm.slots = 6) (h1 : rm.frames ≤ 10 ∧ rm.locals ≤ 360) (hc : Cx l yX9_centroid (.code yX9_centroid cX9_centroid 5 (some .int)) rm Γ b M [.ref (b + 0), .float v0, .float v1, .float v2, .float v3] mem "java/lang/IllegalStateException") : Ct l yL_centroid kL_centroid RW Γ b M [.ref (b + 0), .float v0, .float v1, .float v2, .float v3, .ref (b + 136)] mem (fun u => u = mem) (some (.int (nI 2))) := by
  refine mw_enter (cc := cL_centroid) (by decide) (Nat.le_of_ble_eq_true rfl) ?_
  intro p e s m args below meth c ls hx hb hml hown hr hlocks htab hE hh hl
  have hl : lv_has ls 7 [(0, .ref (b + 0)), (1, .float v0), (2, .float v1), (3, .float v2), (4, .float v3), (5, .ref (b + 136))] := hl
  refine lv_aload hx hb dL_centroid_0 (lv_at hl 5 rfl) ?_
  refine lv_iconst (v := (nI 0)) hx hb dL_centroid_2 (by decide) ?_
  refine lv_aload_n hx hb dL_centroid_3 rfl (lv_at hl 0 rfl) ?_
  refine lv_fload_n hx hb dL_centroid_4 rfl (lv_at hl 1 rfl) ?_
  refine lv_fload_n hx hb dL_centroid_5 rfl (lv_at hl 2 rfl) ?_
  refine lv_fload_n hx hb dL_centroid_6 rfl (lv_at hl 3 rfl) ?_
  refine lv_fload hx hb dL_centroid_7 (lv_at hl 4 rfl) ?_
  refine mw_catch (As := [.float v0, .float v1, .float v2, .float v3]) (rest := [.int (nI 0), .ref (b + 136)]) (name := "java/lang/IllegalStateException") hx hb hml hown hE hl.1 hh (kc_L_31 hE.2.1 ⟨by show _ ≤ 11; omega, by show _ ≤ 400; omega⟩) hc rfl (by omega) fH rfl rfl (Nat.le_of_ble_eq_true rfl) dL_centroid_9 h0.1 h0.2 ⟨Nat.le_refl _, Nat.le_refl _⟩ [⟨0, 14, 17, 25⟩] ⟨0, 14, 21, 13⟩ [] (htab.trans rfl) ?_ (by decide) (by decide) (wcL_13 hE.2.1 args) (va_tabs rfl rfl (hE.2.2.1.2.2.1 ("java/lang/IllegalStateException", "java/lang/IllegalStateException") (List.mem_of_getElem? (i := 0) rfl))) (fun q H locs hh => ?_)
  · intro z hz
    simp only [List.mem_cons, List.not_mem_nil, or_false] at hz
    subst hz
    exact Or.inr ⟨by decide, "java/lang/IllegalArgumentException", wcL_25 hE.2.1 args, hE.2.2.1.2.2.2.1 ("java/lang/IllegalStateException", "java/lang/IllegalArgumentException") (List.mem_of_getElem? (i := 1) rfl)⟩
  refine lv_astore (lv' := [(6, .ref q), (0, .ref (b + 0)), (1, .float v0), (2, .float v1), (3, .float v2), (4, .float v3), (5, .ref (b + 136))]) hx hb dL_centroid_21 hl (by decide) rfl (fun ls hl => ?_)
  refine lv_iconst (v := (nI 2)) hx hb dL_centroid_23 (by decide) ?_
  exact mm_iret hx hb hr hlocks hE hh rfl rfl dL_centroid_24
abbrev hL_word : List (Nat × Nat × Nat × Nat) := [(0, 9, 12, 19), (0, 9, 15, 25), (0, 9, 18, 13)]
abbrev kL_word : Cond := .codeWith yL_word cL_word 4 (some .int) hL_word
theorem wdL_word {U : State} (h : EXg U) (A : Array Value) : (kL_word).before A U = true := h _ (List.mem_of_getElem? (i := 512) (by decide +kernel)) (by decide +kernel) A
theorem wlL_word {U : State} (h : EXg U) (A : Array Value) : (Cond.methodLink RL 108 yL_word).before A U = true := h _ (List.mem_of_getElem? (i := 510) (by decide +kernel)) (by decide +kernel) A
theorem wsL_word {U : State} (h : EXg U) (A : Array Value) : (Cond.static yL_word).before A U = true := h _ (List.mem_of_getElem? (i := 511) (by decide +kernel)) (by decide +kernel) A
theorem kw_word {R rm : Room} {s : State} {args : Array Value} (hE : EXg s) (hR : rm.frames + 1 ≤ R.frames ∧ 8 + (4 + 11) + rm.locals ≤ R.locals) : vx_CSW R s args RL 108 yL_word cL_word 4 (some .int) hL_word [kL_word] rm rm.cells rm.slots 3 := mw_cw 3 (fun A U h => wdL_word h A) hE (wn_L hE args) (wlL_word hE args) (wsL_word hE args) (by decide +kernel) hR
set_option maxHeartbeats 4000000 in
set_option maxRecDepth 100000 in
theorem wr_word (l : Launch) (Γ : Gm) (b M : Nat) (mem : Nat → va_E) {v0 : Int32} {fs : List Value} (hM : 138 ≤ M) (fH : mem 0 = .inr (8, fs)) {rm : Room} {r : Int32} {P : (Nat → va_E) → Prop} (hf : ∀ u0, P u0 → ∃ f : Nat → Int64, u0 136 = aJ Γ 1 f) (h0 : rm.cells = 0 ∧ rm.slots = 0) (h1 : rm.frames ≤ 10 ∧ rm.locals ≤ 360) (hc : Ct l yX9_word (.code yX9_word cX9_word 2 (some .int)) rm Γ b M [.ref (b + 0), .int v0] mem P (some (.int r))) : Ct l yL_word kL_word RW Γ b M [.ref (b + 0), .int v0, .ref (b + 136)] mem (fun u => ∃ (u0 : Nat → va_E) (f : Nat → Int64), P u0 ∧ u0 136 = aJ Γ 1 f ∧ u 136 = aJ Γ 1 (va_up f 0 (r.toInt64)) ∧ ∀ j, j ≠ 136 → u j = u0 j) (some (.int (nI 0))) := by
  refine mw_enter (cc := cL_word) (by decide) (Nat.le_of_ble_eq_true rfl) ?_
  intro p e s m args below meth c ls hx hb hml hown hr hlocks htab hE hh hl
  have hl : lv_has ls 4 [(0, .ref (b + 0)), (1, .int v0), (2, .ref (b + 136))] := hl
  refine lv_aload_n hx hb dL_word_0 rfl (lv_at hl 2 rfl) ?_
  refine lv_iconst (v := (nI 0)) hx hb dL_word_1 (by decide) ?_
  refine lv_aload_n hx hb dL_word_2 rfl (lv_at hl 0 rfl) ?_
  refine lv_iload_n hx hb dL_word_3 rfl (lv_at hl 1 rfl) ?_
  refine mm_V0 (As := [.int v0]) (rest := [.int (nI 0), .ref (b + 136)]) hx hb hml hown hE hl.1 hh (kc_L_35 hE.2.1 ⟨by show _ ≤ 11; omega, by show _ ≤ 400; omega⟩) hc rfl (by omega) fH rfl rfl (Nat.le_of_ble_eq_true rfl) dL_word_4 h0.1 h0.2 (fun H locs mem1 hP hh => ?_)
  refine lv_i2l hx hb dL_word_7 rfl ?_
  obtain ⟨f, hf1⟩ := hf mem1 hP
  refine mm_last hx hb hE hh (k := 0) (by omega) hf1 (by decide) (by decide) dL_word_8 (fun H locs mem2 e2 k2 hh => ?_)
  refine lv_goto (tgt := 21) hx hb dL_word_9 (by decide) ?_
  refine lv_iconst (v := (nI 0)) hx hb dL_word_21 (by decide) ?_
  refine W.widen (k := 1) (n := 6) (by omega) (by omega) ?_
  exact mm_iret hx hb hr hlocks hE hh rfl ⟨mem1, f, hP, hf1, e2, k2⟩ dL_word_22
set_option maxHeartbeats 4000000 in
set_option maxRecDepth 100000 in
theorem wx_word_1 (l : Launch) (Γ : Gm) (b M : Nat) (mem : Nat → va_E) {v0 : Int32} {fs : List Value} (hM : 138 ≤ M) (fH : mem 0 = .inr (8, fs)) {rm : Room} (h0 : rm.cells = 1 ∧ rm.slots = 6) (h1 : rm.frames ≤ 10 ∧ rm.locals ≤ 360) (hc : Cx l yX9_word (.code yX9_word cX9_word 2 (some .int)) rm Γ b M [.ref (b + 0), .int v0] mem "java/lang/IndexOutOfBoundsException") : Ct l yL_word kL_word RW Γ b M [.ref (b + 0), .int v0, .ref (b + 136)] mem (fun u => u = mem) (some (.int (nI 1))) := by
  refine mw_enter (cc := cL_word) (by decide) (Nat.le_of_ble_eq_true rfl) ?_
  intro p e s m args below meth c ls hx hb hml hown hr hlocks htab hE hh hl
  have hl : lv_has ls 4 [(0, .ref (b + 0)), (1, .int v0), (2, .ref (b + 136))] := hl
  refine lv_aload_n hx hb dL_word_0 rfl (lv_at hl 2 rfl) ?_
  refine lv_iconst (v := (nI 0)) hx hb dL_word_1 (by decide) ?_
  refine lv_aload_n hx hb dL_word_2 rfl (lv_at hl 0 rfl) ?_
  refine lv_iload_n hx hb dL_word_3 rfl (lv_at hl 1 rfl) ?_
  refine mw_catch (As := [.int v0]) (rest := [.int (nI 0), .ref (b + 136)]) (name := "java/lang/IndexOutOfBoundsException") hx hb hml hown hE hl.1 hh (kc_L_35 hE.2.1 ⟨by show _ ≤ 11; omega, by show _ ≤ 400; omega⟩) hc rfl (by omega) fH rfl rfl (Nat.le_of_ble_eq_true rfl) dL_word_4 h0.1 h0.2 ⟨Nat.le_refl _, Nat.le_refl _⟩ [] ⟨0, 9, 12, 19⟩ [⟨0, 9, 15, 25⟩, ⟨0, 9, 18, 13⟩] (htab.trans rfl) ?_ (by decide) (by decide) (wcL_19 hE.2.1 args) (va_tabs rfl rfl (hE.2.2.1.2.2.1 ("java/lang/IndexOutOfBoundsException", "java/lang/IndexOutOfBoundsException") (List.mem_of_getElem? (i := 1) rfl))) (fun q H locs hh => ?_)
  · intro z hz; exact absurd hz List.not_mem_nil
  refine lv_astore_n (lv' := [(3, .ref q), (0, .ref (b + 0)), (1, .int v0), (2, .ref (b + 136))]) hx hb dL_word_12 rfl hl (by decide) rfl (fun ls hl => ?_)
  refine lv_iconst (v := (nI 1)) hx hb dL_word_13 (by decide) ?_
  exact mm_iret hx hb hr hlocks hE hh rfl rfl dL_word_14
set_option maxHeartbeats 4000000 in
set_option maxRecDepth 100000 in
theorem wx_word_2 (l : Launch) (Γ : Gm) (b M : Nat) (mem : Nat → va_E) {v0 : Int32} {fs : List Value} (hM : 138 ≤ M) (fH : mem 0 = .inr (8, fs)) {rm : Room} (h0 : rm.cells = 1 ∧ rm.slots = 6) (h1 : rm.frames ≤ 10 ∧ rm.locals ≤ 360) (hc : Cx l yX9_word (.code yX9_word cX9_word 2 (some .int)) rm Γ b M [.ref (b + 0), .int v0] mem "java/lang/IllegalArgumentException") : Ct l yL_word kL_word RW Γ b M [.ref (b + 0), .int v0, .ref (b + 136)] mem (fun u => u = mem) (some (.int (nI 2))) := by
  refine mw_enter (cc := cL_word) (by decide) (Nat.le_of_ble_eq_true rfl) ?_
  intro p e s m args below meth c ls hx hb hml hown hr hlocks htab hE hh hl
  have hl : lv_has ls 4 [(0, .ref (b + 0)), (1, .int v0), (2, .ref (b + 136))] := hl
  refine lv_aload_n hx hb dL_word_0 rfl (lv_at hl 2 rfl) ?_
  refine lv_iconst (v := (nI 0)) hx hb dL_word_1 (by decide) ?_
  refine lv_aload_n hx hb dL_word_2 rfl (lv_at hl 0 rfl) ?_
  refine lv_iload_n hx hb dL_word_3 rfl (lv_at hl 1 rfl) ?_
  refine mw_catch (As := [.int v0]) (rest := [.int (nI 0), .ref (b + 136)]) (name := "java/lang/IllegalArgumentException") hx hb hml hown hE hl.1 hh (kc_L_35 hE.2.1 ⟨by show _ ≤ 11; omega, by show _ ≤ 400; omega⟩) hc rfl (by omega) fH rfl rfl (Nat.le_of_ble_eq_true rfl) dL_word_4 h0.1 h0.2 ⟨Nat.le_refl _, Nat.le_refl _⟩ [⟨0, 9, 12, 19⟩] ⟨0, 9, 15, 25⟩ [⟨0, 9, 18, 13⟩] (htab.trans rfl) ?_ (by decide) (by decide) (wcL_25 hE.2.1 args) (va_tabs rfl rfl (hE.2.2.1.2.2.1 ("java/lang/IllegalArgumentException", "java/lang/IllegalArgumentException") (List.mem_of_getElem? (i := 2) rfl))) (fun q H locs hh => ?_)
  · intro z hz
    simp only [List.mem_cons, List.not_mem_nil, or_false] at hz
    subst hz
    exact Or.inr ⟨by decide, "java/lang/IndexOutOfBoundsException", wcL_19 hE.2.1 args, hE.2.2.1.2.2.2.1 ("java/lang/IllegalArgumentException", "java/lang/IndexOutOfBoundsException") (List.mem_of_getElem? (i := 7) rfl)⟩
  refine lv_astore_n (lv' := [(3, .ref q), (0, .ref (b + 0)), (1, .int v0), (2, .ref (b + 136))]) hx hb dL_word_15 rfl hl (by decide) rfl (fun ls hl => ?_)
  refine lv_iconst (v := (nI 2)) hx hb dL_word_16 (by decide) ?_
  exact mm_iret hx hb hr hlocks hE hh rfl rfl dL_word_17
set_option maxHeartbeats 4000000 in
set_option maxRecDepth 100000 in
theorem wx_word_3 (l : Launch) (Γ : Gm) (b M : Nat) (mem : Nat → va_E) {v0 : Int32} {fs : List Value} (hM : 138 ≤ M) (fH : mem 0 = .inr (8, fs)) {rm : Room} (h0 : rm.cells = 1 ∧ rm.slots = 6) (h1 : rm.frames ≤ 10 ∧ rm.locals ≤ 360) (hc : Cx l yX9_word (.code yX9_word cX9_word 2 (some .int)) rm Γ b M [.ref (b + 0), .int v0] mem "java/lang/IllegalStateException") : Ct l yL_word kL_word RW Γ b M [.ref (b + 0), .int v0, .ref (b + 136)] mem (fun u => u = mem) (some (.int (nI 3))) := by
  refine mw_enter (cc := cL_word) (by decide) (Nat.le_of_ble_eq_true rfl) ?_
  intro p e s m args below meth c ls hx hb hml hown hr hlocks htab hE hh hl
  have hl : lv_has ls 4 [(0, .ref (b + 0)), (1, .int v0), (2, .ref (b + 136))] := hl
  refine lv_aload_n hx hb dL_word_0 rfl (lv_at hl 2 rfl) ?_
  refine lv_iconst (v := (nI 0)) hx hb dL_word_1 (by decide) ?_
  refine lv_aload_n hx hb dL_word_2 rfl (lv_at hl 0 rfl) ?_
  refine lv_iload_n hx hb dL_word_3 rfl (lv_at hl 1 rfl) ?_
  refine mw_catch (As := [.int v0]) (rest := [.int (nI 0), .ref (b + 136)]) (name := "java/lang/IllegalStateException") hx hb hml hown hE hl.1 hh (kc_L_35 hE.2.1 ⟨by show _ ≤ 11; omega, by show _ ≤ 400; omega⟩) hc rfl (by omega) fH rfl rfl (Nat.le_of_ble_eq_true rfl) dL_word_4 h0.1 h0.2 ⟨Nat.le_refl _, Nat.le_refl _⟩ [⟨0, 9, 12, 19⟩, ⟨0, 9, 15, 25⟩] ⟨0, 9, 18, 13⟩ [] (htab.trans rfl) ?_ (by decide) (by decide) (wcL_13 hE.2.1 args) (va_tabs rfl rfl (hE.2.2.1.2.2.1 ("java/lang/IllegalStateException", "java/lang/IllegalStateException") (List.mem_of_getElem? (i := 0) rfl))) (fun q H locs hh => ?_)
  · intro z hz
    simp only [List.mem_cons, List.not_mem_nil, or_false] at hz
    rcases hz with rfl | rfl
    · exact Or.inr ⟨by decide, "java/lang/IndexOutOfBoundsException", wcL_19 hE.2.1 args, hE.2.2.1.2.2.2.1 ("java/lang/IllegalStateException", "java/lang/IndexOutOfBoundsException") (List.mem_of_getElem? (i := 0) rfl)⟩
    · exact Or.inr ⟨by decide, "java/lang/IllegalArgumentException", wcL_25 hE.2.1 args, hE.2.2.1.2.2.2.1 ("java/lang/IllegalStateException", "java/lang/IllegalArgumentException") (List.mem_of_getElem? (i := 1) rfl)⟩
  refine lv_astore_n (lv' := [(3, .ref q), (0, .ref (b + 0)), (1, .int v0), (2, .ref (b + 136))]) hx hb dL_word_18 rfl hl (by decide) rfl (fun ls hl => ?_)
  refine lv_iconst (v := (nI 3)) hx hb dL_word_19 (by decide) ?_
  exact mm_iret hx hb hr hlocks hE hh rfl rfl dL_word_20
abbrev hL_impact : List (Nat × Nat × Nat × Nat) := [(0, 10, 13, 19), (0, 10, 17, 25), (0, 10, 21, 13)]
abbrev kL_impact : Cond := .codeWith yL_impact cL_impact 5 (some .int) hL_impact
theorem wdL_impact {U : State} (h : EXg U) (A : Array Value) : (kL_impact).before A U = true := h _ (List.mem_of_getElem? (i := 534) (by decide +kernel)) (by decide +kernel) A
theorem wlL_impact {U : State} (h : EXg U) (A : Array Value) : (Cond.methodLink RL 112 yL_impact).before A U = true := h _ (List.mem_of_getElem? (i := 532) (by decide +kernel)) (by decide +kernel) A
theorem wsL_impact {U : State} (h : EXg U) (A : Array Value) : (Cond.static yL_impact).before A U = true := h _ (List.mem_of_getElem? (i := 533) (by decide +kernel)) (by decide +kernel) A
theorem kw_impact {R rm : Room} {s : State} {args : Array Value} (hE : EXg s) (hR : rm.frames + 1 ≤ R.frames ∧ 8 + (5 + 11) + rm.locals ≤ R.locals) : vx_CSW R s args RL 112 yL_impact cL_impact 5 (some .int) hL_impact [kL_impact] rm rm.cells rm.slots 4 := mw_cw 4 (fun A U h => wdL_impact h A) hE (wn_L hE args) (wlL_impact hE args) (wsL_impact hE args) (by decide +kernel) hR
set_option maxHeartbeats 4000000 in
set_option maxRecDepth 100000 in
theorem wr_impact (l : Launch) (Γ : Gm) (b M : Nat) (mem : Nat → va_E) {v0 : Int32} {v1 : Int32} {fs : List Value} (hM : 138 ≤ M) (fH : mem 0 = .inr (8, fs)) {rm : Room} {r : Int32} {P : (Nat → va_E) → Prop} (hf : ∀ u0, P u0 → ∃ f : Nat → Int64, u0 136 = aJ Γ 1 f) (h0 : rm.cells = 0 ∧ rm.slots = 0) (h1 : rm.frames ≤ 10 ∧ rm.locals ≤ 360) (hc : Ct l yX9_impact (.code yX9_impact cX9_impact 3 (some .int)) rm Γ b M [.ref (b + 0), .int v0, .int v1] mem P (some (.int r))) : Ct l yL_impact kL_impact RW Γ b M [.ref (b + 0), .int v0, .int v1, .ref (b + 136)] mem (fun u => ∃ (u0 : Nat → va_E) (f : Nat → Int64), P u0 ∧ u0 136 = aJ Γ 1 f ∧ u 136 = aJ Γ 1 (va_up f 0 (r.toInt64)) ∧ ∀ j, j ≠ 136 → u j = u0 j) (some (.int (nI 0))) := by
  refine mw_enter (cc := cL_impact) (by decide) (Nat.le_of_ble_eq_true rfl) ?_
  intro p e s m args below meth c ls hx hb hml hown hr hlocks htab hE hh hl
  have hl : lv_has ls 5 [(0, .ref (b + 0)), (1, .int v0), (2, .int v1), (3, .ref (b + 136))] := hl
  refine lv_aload_n hx hb dL_impact_0 rfl (lv_at hl 3 rfl) ?_
  refine lv_iconst (v := (nI 0)) hx hb dL_impact_1 (by decide) ?_
  refine lv_aload_n hx hb dL_impact_2 rfl (lv_at hl 0 rfl) ?_
  refine lv_iload_n hx hb dL_impact_3 rfl (lv_at hl 1 rfl) ?_
  refine lv_iload_n hx hb dL_impact_4 rfl (lv_at hl 2 rfl) ?_
  refine mm_V0 (As := [.int v0, .int v1]) (rest := [.int (nI 0), .ref (b + 136)]) hx hb hml hown hE hl.1 hh (kc_L_39 hE.2.1 ⟨by show _ ≤ 11; omega, by show _ ≤ 400; omega⟩) hc rfl (by omega) fH rfl rfl (Nat.le_of_ble_eq_true rfl) dL_impact_5 h0.1 h0.2 (fun H locs mem1 hP hh => ?_)
  refine lv_i2l hx hb dL_impact_8 rfl ?_
  obtain ⟨f, hf1⟩ := hf mem1 hP
  refine mm_last hx hb hE hh (k := 0) (by omega) hf1 (by decide) (by decide) dL_impact_9 (fun H locs mem2 e2 k2 hh => ?_)
  refine lv_goto (tgt := 25) hx hb dL_impact_10 (by decide) ?_
  refine lv_iconst (v := (nI 0)) hx hb dL_impact_25 (by decide) ?_
  refine W.widen (k := 1) (n := 6) (by omega) (by omega) ?_
  exact mm_iret hx hb hr hlocks hE hh rfl ⟨mem1, f, hP, hf1, e2, k2⟩ dL_impact_26
set_option maxHeartbeats 4000000 in
set_option maxRecDepth 100000 in
theorem wx_impact_1 (l : Launch) (Γ : Gm) (b M : Nat) (mem : Nat → va_E) {v0 : Int32} {v1 : Int32} {fs : List Value} (hM : 138 ≤ M) (fH : mem 0 = .inr (8, fs)) {rm : Room} (h0 : rm.cells = 1 ∧ rm.slots = 6) (h1 : rm.frames ≤ 10 ∧ rm.locals ≤ 360) (hc : Cx l yX9_impact (.code yX9_impact cX9_impact 3 (some .int)) rm Γ b M [.ref (b + 0), .int v0, .int v1] mem "java/lang/IndexOutOfBoundsException") : Ct l yL_impact kL_impact RW Γ b M [.ref (b + 0), .int v0, .int v1, .ref (b + 136)] mem (fun u => u = mem) (some (.int (nI 1))) := by
  refine mw_enter (cc := cL_impact) (by decide) (Nat.le_of_ble_eq_true rfl) ?_
  intro p e s m args below meth c ls hx hb hml hown hr hlocks htab hE hh hl
  have hl : lv_has ls 5 [(0, .ref (b + 0)), (1, .int v0), (2, .int v1), (3, .ref (b + 136))] := hl
  refine lv_aload_n hx hb dL_impact_0 rfl (lv_at hl 3 rfl) ?_
  refine lv_iconst (v := (nI 0)) hx hb dL_impact_1 (by decide) ?_
  refine lv_aload_n hx hb dL_impact_2 rfl (lv_at hl 0 rfl) ?_
  refine lv_iload_n hx hb dL_impact_3 rfl (lv_at hl 1 rfl) ?_
  refine lv_iload_n hx hb dL_impact_4 rfl (lv_at hl 2 rfl) ?_
  refine mw_catch (As := [.int v0, .int v1]) (rest := [.int (nI 0), .ref (b + 136)]) (name := "java/lang/IndexOutOfBoundsException") hx hb hml hown hE hl.1 hh (kc_L_39 hE.2.1 ⟨by show _ ≤ 11; omega, by show _ ≤ 400; omega⟩) hc rfl (by omega) fH rfl rfl (Nat.le_of_ble_eq_true rfl) dL_impact_5 h0.1 h0.2 ⟨Nat.le_refl _, Nat.le_refl _⟩ [] ⟨0, 10, 13, 19⟩ [⟨0, 10, 17, 25⟩, ⟨0, 10, 21, 13⟩] (htab.trans rfl) ?_ (by decide) (by decide) (wcL_19 hE.2.1 args) (va_tabs rfl rfl (hE.2.2.1.2.2.1 ("java/lang/IndexOutOfBoundsException", "java/lang/IndexOutOfBoundsException") (List.mem_of_getElem? (i := 1) rfl))) (fun q H locs hh => ?_)
  · intro z hz; exact absurd hz List.not_mem_nil
  refine lv_astore (lv' := [(4, .ref q), (0, .ref (b + 0)), (1, .int v0), (2, .int v1), (3, .ref (b + 136))]) hx hb dL_impact_13 hl (by decide) rfl (fun ls hl => ?_)
  refine lv_iconst (v := (nI 1)) hx hb dL_impact_15 (by decide) ?_
  exact mm_iret hx hb hr hlocks hE hh rfl rfl dL_impact_16
set_option maxHeartbeats 4000000 in
set_option maxRecDepth 100000 in
theorem wx_impact_2 (l : Launch) (Γ : Gm) (b M : Nat) (mem : Nat → va_E) {v0 : Int32} {v1 : Int32} {fs : List Value} (hM : 138 ≤ M) (fH : mem 0 = .inr (8, fs)) {rm : Room} (h0 : rm.cells = 1 ∧ rm.slots = 6) (h1 : rm.frames ≤ 10 ∧ rm.locals ≤ 360) (hc : Cx l yX9_impact (.code yX9_impact cX9_impact 3 (some .int)) rm Γ b M [.ref (b + 0), .int v0, .int v1] mem "java/lang/IllegalArgumentException") : Ct l yL_impact kL_impact RW Γ b M [.ref (b + 0), .int v0, .int v1, .ref (b + 136)] mem (fun u => u = mem) (some (.int (nI 2))) := by
  refine mw_enter (cc := cL_impact) (by decide) (Nat.le_of_ble_eq_true rfl) ?_
  intro p e s m args below meth c ls hx hb hml hown hr hlocks htab hE hh hl
  have hl : lv_has ls 5 [(0, .ref (b + 0)), (1, .int v0), (2, .int v1), (3, .ref (b + 136))] := hl
  refine lv_aload_n hx hb dL_impact_0 rfl (lv_at hl 3 rfl) ?_
  refine lv_iconst (v := (nI 0)) hx hb dL_impact_1 (by decide) ?_
  refine lv_aload_n hx hb dL_impact_2 rfl (lv_at hl 0 rfl) ?_
  refine lv_iload_n hx hb dL_impact_3 rfl (lv_at hl 1 rfl) ?_
  refine lv_iload_n hx hb dL_impact_4 rfl (lv_at hl 2 rfl) ?_
  refine mw_catch (As := [.int v0, .int v1]) (rest := [.int (nI 0), .ref (b + 136)]) (name := "java/lang/IllegalArgumentException") hx hb hml hown hE hl.1 hh (kc_L_39 hE.2.1 ⟨by show _ ≤ 11; omega, by show _ ≤ 400; omega⟩) hc rfl (by omega) fH rfl rfl (Nat.le_of_ble_eq_true rfl) dL_impact_5 h0.1 h0.2 ⟨Nat.le_refl _, Nat.le_refl _⟩ [⟨0, 10, 13, 19⟩] ⟨0, 10, 17, 25⟩ [⟨0, 10, 21, 13⟩] (htab.trans rfl) ?_ (by decide) (by decide) (wcL_25 hE.2.1 args) (va_tabs rfl rfl (hE.2.2.1.2.2.1 ("java/lang/IllegalArgumentException", "java/lang/IllegalArgumentException") (List.mem_of_getElem? (i := 2) rfl))) (fun q H locs hh => ?_)
  · intro z hz
    simp only [List.mem_cons, List.not_mem_nil, or_false] at hz
    subst hz
    exact Or.inr ⟨by decide, "java/lang/IndexOutOfBoundsException", wcL_19 hE.2.1 args, hE.2.2.1.2.2.2.1 ("java/lang/IllegalArgumentException", "java/lang/IndexOutOfBoundsException") (List.mem_of_getElem? (i := 7) rfl)⟩
  refine lv_astore (lv' := [(4, .ref q), (0, .ref (b + 0)), (1, .int v0), (2, .int v1), (3, .ref (b + 136))]) hx hb dL_impact_17 hl (by decide) rfl (fun ls hl => ?_)
  refine lv_iconst (v := (nI 2)) hx hb dL_impact_19 (by decide) ?_
  exact mm_iret hx hb hr hlocks hE hh rfl rfl dL_impact_20
set_option maxHeartbeats 4000000 in
set_option maxRecDepth 100000 in
theorem wx_impact_3 (l : Launch) (Γ : Gm) (b M : Nat) (mem : Nat → va_E) {v0 : Int32} {v1 : Int32} {fs : List Value} (hM : 138 ≤ M) (fH : mem 0 = .inr (8, fs)) {rm : Room} (h0 : rm.cells = 1 ∧ rm.slots = 6) (h1 : rm.frames ≤ 10 ∧ rm.locals ≤ 360) (hc : Cx l yX9_impact (.code yX9_impact cX9_impact 3 (some .int)) rm Γ b M [.ref (b + 0), .int v0, .int v1] mem "java/lang/IllegalStateException") : Ct l yL_impact kL_impact RW Γ b M [.ref (b + 0), .int v0, .int v1, .ref (b + 136)] mem (fun u => u = mem) (some (.int (nI 3))) := by
  refine mw_enter (cc := cL_impact) (by decide) (Nat.le_of_ble_eq_true rfl) ?_
  intro p e s m args below meth c ls hx hb hml hown hr hlocks htab hE hh hl
  have hl : lv_has ls 5 [(0, .ref (b + 0)), (1, .int v0), (2, .int v1), (3, .ref (b + 136))] := hl
  refine lv_aload_n hx hb dL_impact_0 rfl (lv_at hl 3 rfl) ?_
  refine lv_iconst (v := (nI 0)) hx hb dL_impact_1 (by decide) ?_
  refine lv_aload_n hx hb dL_impact_2 rfl (lv_at hl 0 rfl) ?_
  refine lv_iload_n hx hb dL_impact_3 rfl (lv_at hl 1 rfl) ?_
  refine lv_iload_n hx hb dL_impact_4 rfl (lv_at hl 2 rfl) ?_
  refine mw_catch (As := [.int v0, .int v1]) (rest := [.int (nI 0), .ref (b + 136)]) (name := "java/lang/IllegalStateException") hx hb hml hown hE hl.1 hh (kc_L_39 hE.2.1 ⟨by show _ ≤ 11; omega, by show _ ≤ 400; omega⟩) hc rfl (by omega) fH rfl rfl (Nat.le_of_ble_eq_true rfl) dL_impact_5 h0.1 h0.2 ⟨Nat.le_refl _, Nat.le_refl _⟩ [⟨0, 10, 13, 19⟩, ⟨0, 10, 17, 25⟩] ⟨0, 10, 21, 13⟩ [] (htab.trans rfl) ?_ (by decide) (by decide) (wcL_13 hE.2.1 args) (va_tabs rfl rfl (hE.2.2.1.2.2.1 ("java/lang/IllegalStateException", "java/lang/IllegalStateException") (List.mem_of_getElem? (i := 0) rfl))) (fun q H locs hh => ?_)
  · intro z hz
    simp only [List.mem_cons, List.not_mem_nil, or_false] at hz
    rcases hz with rfl | rfl
    · exact Or.inr ⟨by decide, "java/lang/IndexOutOfBoundsException", wcL_19 hE.2.1 args, hE.2.2.1.2.2.2.1 ("java/lang/IllegalStateException", "java/lang/IndexOutOfBoundsException") (List.mem_of_getElem? (i := 0) rfl)⟩
    · exact Or.inr ⟨by decide, "java/lang/IllegalArgumentException", wcL_25 hE.2.1 args, hE.2.2.1.2.2.2.1 ("java/lang/IllegalStateException", "java/lang/IllegalArgumentException") (List.mem_of_getElem? (i := 1) rfl)⟩
  refine lv_astore (lv' := [(4, .ref q), (0, .ref (b + 0)), (1, .int v0), (2, .int v1), (3, .ref (b + 136))]) hx hb dL_impact_21 hl (by decide) rfl (fun ls hl => ?_)
  refine lv_iconst (v := (nI 3)) hx hb dL_impact_23 (by decide) ?_
  exact mm_iret hx hb hr hlocks hE hh rfl rfl dL_impact_24
abbrev hL_vector : List (Nat × Nat × Nat × Nat) := [(0, 14, 17, 25), (0, 14, 21, 13)]
abbrev kL_vector : Cond := .codeWith yL_vector cL_vector 7 (some .int) hL_vector
theorem wdL_vector {U : State} (h : EXg U) (A : Array Value) : (kL_vector).before A U = true := h _ (List.mem_of_getElem? (i := 543) (by decide +kernel)) (by decide +kernel) A
theorem wlL_vector {U : State} (h : EXg U) (A : Array Value) : (Cond.methodLink RL 115 yL_vector).before A U = true := h _ (List.mem_of_getElem? (i := 541) (by decide +kernel)) (by decide +kernel) A
theorem wsL_vector {U : State} (h : EXg U) (A : Array Value) : (Cond.static yL_vector).before A U = true := h _ (List.mem_of_getElem? (i := 542) (by decide +kernel)) (by decide +kernel) A
theorem kw_vector {R rm : Room} {s : State} {args : Array Value} (hE : EXg s) (hR : rm.frames + 1 ≤ R.frames ∧ 8 + (7 + 11) + rm.locals ≤ R.locals) : vx_CSW R s args RL 115 yL_vector cL_vector 7 (some .int) hL_vector [kL_vector] rm rm.cells rm.slots 6 := mw_cw 6 (fun A U h => wdL_vector h A) hE (wn_L hE args) (wlL_vector hE args) (wsL_vector hE args) (by decide +kernel) hR
set_option maxHeartbeats 4000000 in
set_option maxRecDepth 100000 in
theorem wr_vector (l : Launch) (Γ : Gm) (b M : Nat) (mem : Nat → va_E) {v0 : UInt32} {v1 : UInt32} {v2 : UInt32} {v3 : UInt32} {fs : List Value} (hM : 138 ≤ M) (fH : mem 0 = .inr (8, fs)) {rm : Room} {r : Int32} {P : (Nat → va_E) → Prop} (hf : ∀ u0, P u0 → ∃ f : Nat → Int64, u0 136 = aJ Γ 1 f) (h0 : rm.cells = 0 ∧ rm.slots = 0) (h1 : rm.frames ≤ 10 ∧ rm.locals ≤ 360) (hc : Ct l yX9_vector (.code yX9_vector cX9_vector 5 (some .int)) rm Γ b M [.ref (b + 0), .float v0, .float v1, .float v2, .float v3] mem P (some (.int r))) : Ct l yL_vector kL_vector RW Γ b M [.ref (b + 0), .float v0, .float v1, .float v2, .float v3, .ref (b + 136)] mem (fun u => ∃ (u0 : Nat → va_E) (f : Nat → Int64), P u0 ∧ u0 136 = aJ Γ 1 f ∧ u 136 = aJ Γ 1 (va_up f 0 (r.toInt64)) ∧ ∀ j, j ≠ 136 → u j = u0 j) (some (.int (nI 0))) := by
  refine mw_enter (cc := cL_vector) (by decide) (Nat.le_of_ble_eq_true rfl) ?_
  intro p e s m args below meth c ls hx hb hml hown hr hlocks htab hE hh hl
  have hl : lv_has ls 7 [(0, .ref (b + 0)), (1, .float v0), (2, .float v1), (3, .float v2), (4, .float v3), (5, .ref (b + 136))] := hl
  refine lv_aload hx hb dL_vector_0 (lv_at hl 5 rfl) ?_
  refine lv_iconst (v := (nI 0)) hx hb dL_vector_2 (by decide) ?_
  refine lv_aload_n hx hb dL_vector_3 rfl (lv_at hl 0 rfl) ?_
  refine lv_fload_n hx hb dL_vector_4 rfl (lv_at hl 1 rfl) ?_
  refine lv_fload_n hx hb dL_vector_5 rfl (lv_at hl 2 rfl) ?_
  refine lv_fload_n hx hb dL_vector_6 rfl (lv_at hl 3 rfl) ?_
  refine lv_fload hx hb dL_vector_7 (lv_at hl 4 rfl) ?_
  refine mm_V0 (As := [.float v0, .float v1, .float v2, .float v3]) (rest := [.int (nI 0), .ref (b + 136)]) hx hb hml hown hE hl.1 hh (kc_L_42 hE.2.1 ⟨by show _ ≤ 11; omega, by show _ ≤ 400; omega⟩) hc rfl (by omega) fH rfl rfl (Nat.le_of_ble_eq_true rfl) dL_vector_9 h0.1 h0.2 (fun H locs mem1 hP hh => ?_)
  refine lv_i2l hx hb dL_vector_12 rfl ?_
  obtain ⟨f, hf1⟩ := hf mem1 hP
  refine mm_last hx hb hE hh (k := 0) (by omega) hf1 (by decide) (by decide) dL_vector_13 (fun H locs mem2 e2 k2 hh => ?_)
  refine lv_goto (tgt := 25) hx hb dL_vector_14 (by decide) ?_
  refine lv_iconst (v := (nI 0)) hx hb dL_vector_25 (by decide) ?_
  refine W.widen (k := 1) (n := 6) (by omega) (by omega) ?_
  exact mm_iret hx hb hr hlocks hE hh rfl ⟨mem1, f, hP, hf1, e2, k2⟩ dL_vector_26
set_option maxHeartbeats 4000000 in
set_option maxRecDepth 100000 in
theorem wx_vector_1 (l : Launch) (Γ : Gm) (b M : Nat) (mem : Nat → va_E) {v0 : UInt32} {v1 : UInt32} {v2 : UInt32} {v3 : UInt32} {fs : List Value} (hM : 138 ≤ M) (fH : mem 0 = .inr (8, fs)) {rm : Room} (h0 : rm.cells = 1 ∧ rm.slots = 6) (h1 : rm.frames ≤ 10 ∧ rm.locals ≤ 360) (hc : Cx l yX9_vector (.code yX9_vector cX9_vector 5 (some .int)) rm Γ b M [.ref (b + 0), .float v0, .float v1, .float v2, .float v3] mem "java/lang/IllegalArgumentException") : Ct l yL_vector kL_vector RW Γ b M [.ref (b + 0), .float v0, .float v1, .float v2, .float v3, .ref (b + 136)] mem (fun u => u = mem) (some (.int (nI 1))) := by
  refine mw_enter (cc := cL_vector) (by decide) (Nat.le_of_ble_eq_true rfl) ?_
  intro p e s m args below meth c ls hx hb hml hown hr hlocks htab hE hh hl
  have hl : lv_has ls 7 [(0, .ref (b + 0)), (1, .float v0), (2, .float v1), (3, .float v2), (4, .float v3), (5, .ref (b + 136))] := hl
  refine lv_aload hx hb dL_vector_0 (lv_at hl 5 rfl) ?_
  refine lv_iconst (v := (nI 0)) hx hb dL_vector_2 (by decide) ?_
  refine lv_aload_n hx hb dL_vector_3 rfl (lv_at hl 0 rfl) ?_
  refine lv_fload_n hx hb dL_vector_4 rfl (lv_at hl 1 rfl) ?_
  refine lv_fload_n hx hb dL_vector_5 rfl (lv_at hl 2 rfl) ?_
  refine lv_fload_n hx hb dL_vector_6 rfl (lv_at hl 3 rfl) ?_
  refine lv_fload hx hb dL_vector_7 (lv_at hl 4 rfl) ?_
  refine mw_catch (As := [.float v0, .float v1, .float v2, .float v3]) (rest := [.int (nI 0), .ref (b + 136)]) (name := "java/lang/IllegalArgumentException") hx hb hml hown hE hl.1 hh (kc_L_42 hE.2.1 ⟨by show _ ≤ 11; omega, by show _ ≤ 400; omega⟩) hc rfl (by omega) fH rfl rfl (Nat.le_of_ble_eq_true rfl) dL_vector_9 h0.1 h0.2 ⟨Nat.le_refl _, Nat.le_refl _⟩ [] ⟨0, 14, 17, 25⟩ [⟨0, 14, 21, 13⟩] (htab.trans rfl) ?_ (by decide) (by decide) (wcL_25 hE.2.1 args) (va_tabs rfl rfl (hE.2.2.1.2.2.1 ("java/lang/IllegalArgumentException", "java/lang/IllegalArgumentException") (List.mem_of_getElem? (i := 2) rfl))) (fun q H locs hh => ?_)
  · intro z hz; exact absurd hz List.not_mem_nil
  refine lv_astore (lv' := [(6, .ref q), (0, .ref (b + 0)), (1, .float v0), (2, .float v1), (3, .float v2), (4, .float v3), (5, .ref (b + 136))]) hx hb dL_vector_17 hl (by decide) rfl (fun ls hl => ?_)
  refine lv_iconst (v := (nI 1)) hx hb dL_vector_19 (by decide) ?_
  exact mm_iret hx hb hr hlocks hE hh rfl rfl dL_vector_20
set_option maxHeartbeats 4000000 in
set_option maxRecDepth 100000 in
theorem wx_vector_2 (l : Launch) (Γ : Gm) (b M : Nat) (mem : Nat → va_E) {v0 : UInt32} {v1 : UInt32} {v2 : UInt32} {v3 : UInt32} {fs : List Value} (hM : 138 ≤ M) (fH : mem 0 = .inr (8, fs)) {rm : Room} (h0 : rm.cells = 1 ∧ rm.slots = 6) (h1 : rm.frames ≤ 10 ∧ rm.locals ≤ 360) (hc : Cx l yX9_vector (.code yX9_vector cX9_vector 5 (some .int)) rm Γ b M [.ref (b + 0), .float v0, .float v1, .float v2, .float v3] mem "java/lang/IllegalStateException") : Ct l yL_vector kL_vector RW Γ b M [.ref (b + 0), .float v0, .float v1, .float v2, .float v3, .ref (b + 136)] mem (fun u => u = mem) (some (.int (nI 2))) := by
  refine mw_enter (cc := cL_vector) (by decide) (Nat.le_of_ble_eq_true rfl) ?_
  intro p e s m args below meth c ls hx hb hml hown hr hlocks htab hE hh hl
  have hl : lv_has ls 7 [(0, .ref (b + 0)), (1, .float v0), (2, .float v1), (3, .float v2), (4, .float v3), (5, .ref (b + 136))] := hl
  refine lv_aload hx hb dL_vector_0 (lv_at hl 5 rfl) ?_
  refine lv_iconst (v := (nI 0)) hx hb dL_vector_2 (by decide) ?_
  refine lv_aload_n hx hb dL_vector_3 rfl (lv_at hl 0 rfl) ?_
  refine lv_fload_n hx hb dL_vector_4 rfl (lv_at hl 1 rfl) ?_
  refine lv_fload_n hx hb dL_vector_5 rfl (lv_at hl 2 rfl) ?_
  refine lv_fload_n hx hb dL_vector_6 rfl (lv_at hl 3 rfl) ?_
  refine lv_fload hx hb dL_vector_7 (lv_at hl 4 rfl) ?_
  refine mw_catch (As := [.float v0, .float v1, .float v2, .float v3]) (rest := [.int (nI 0), .ref (b + 136)]) (name := "java/lang/IllegalStateException") hx hb hml hown hE hl.1 hh (kc_L_42 hE.2.1 ⟨by show _ ≤ 11; omega, by show _ ≤ 400; omega⟩) hc rfl (by omega) fH rfl rfl (Nat.le_of_ble_eq_true rfl) dL_vector_9 h0.1 h0.2 ⟨Nat.le_refl _, Nat.le_refl _⟩ [⟨0, 14, 17, 25⟩] ⟨0, 14, 21, 13⟩ [] (htab.trans rfl) ?_ (by decide) (by decide) (wcL_13 hE.2.1 args) (va_tabs rfl rfl (hE.2.2.1.2.2.1 ("java/lang/IllegalStateException", "java/lang/IllegalStateException") (List.mem_of_getElem? (i := 0) rfl))) (fun q H locs hh => ?_)
  · intro z hz
    simp only [List.mem_cons, List.not_mem_nil, or_false] at hz
    subst hz
    exact Or.inr ⟨by decide, "java/lang/IllegalArgumentException", wcL_25 hE.2.1 args, hE.2.2.1.2.2.2.1 ("java/lang/IllegalStateException", "java/lang/IllegalArgumentException") (List.mem_of_getElem? (i := 1) rfl)⟩
  refine lv_astore (lv' := [(6, .ref q), (0, .ref (b + 0)), (1, .float v0), (2, .float v1), (3, .float v2), (4, .float v3), (5, .ref (b + 136))]) hx hb dL_vector_21 hl (by decide) rfl (fun ls hl => ?_)
  refine lv_iconst (v := (nI 2)) hx hb dL_vector_23 (by decide) ?_
  exact mm_iret hx hb hr hlocks hE hh rfl rfl dL_vector_24
abbrev hL_search : List (Nat × Nat × Nat × Nat) := [(0, 14, 17, 25), (0, 14, 21, 13)]
abbrev kL_search : Cond := .codeWith yL_search cL_search 7 (some .int) hL_search
theorem wdL_search {U : State} (h : EXg U) (A : Array Value) : (kL_search).before A U = true := h _ (List.mem_of_getElem? (i := 551) (by decide +kernel)) (by decide +kernel) A
theorem wlL_search {U : State} (h : EXg U) (A : Array Value) : (Cond.methodLink RL 118 yL_search).before A U = true := h _ (List.mem_of_getElem? (i := 549) (by decide +kernel)) (by decide +kernel) A
theorem wsL_search {U : State} (h : EXg U) (A : Array Value) : (Cond.static yL_search).before A U = true := h _ (List.mem_of_getElem? (i := 550) (by decide +kernel)) (by decide +kernel) A
theorem kw_search {R rm : Room} {s : State} {args : Array Value} (hE : EXg s) (hR : rm.frames + 1 ≤ R.frames ∧ 8 + (7 + 11) + rm.locals ≤ R.locals) : vx_CSW R s args RL 118 yL_search cL_search 7 (some .int) hL_search [kL_search] rm rm.cells rm.slots 6 := mw_cw 6 (fun A U h => wdL_search h A) hE (wn_L hE args) (wlL_search hE args) (wsL_search hE args) (by decide +kernel) hR
set_option maxHeartbeats 4000000 in
set_option maxRecDepth 100000 in
theorem wr_search (l : Launch) (Γ : Gm) (b M : Nat) (mem : Nat → va_E) {v0 : Int32} {v1 : Int32} {v2 : Int32} {v3 : Int32} {fs : List Value} (hM : 138 ≤ M) (fH : mem 0 = .inr (8, fs)) {rm : Room} {r : Int32} {P : (Nat → va_E) → Prop} (hf : ∀ u0, P u0 → ∃ f : Nat → Int64, u0 136 = aJ Γ 1 f) (h0 : rm.cells = 0 ∧ rm.slots = 0) (h1 : rm.frames ≤ 10 ∧ rm.locals ≤ 360) (hc : Ct l yX9_search (.code yX9_search cX9_search 5 (some .int)) rm Γ b M [.ref (b + 0), .int v0, .int v1, .int v2, .int v3] mem P (some (.int r))) : Ct l yL_search kL_search RW Γ b M [.ref (b + 0), .int v0, .int v1, .int v2, .int v3, .ref (b + 136)] mem (fun u => ∃ (u0 : Nat → va_E) (f : Nat → Int64), P u0 ∧ u0 136 = aJ Γ 1 f ∧ u 136 = aJ Γ 1 (va_up f 0 (r.toInt64)) ∧ ∀ j, j ≠ 136 → u j = u0 j) (some (.int (nI 0))) := by
  refine mw_enter (cc := cL_search) (by decide) (Nat.le_of_ble_eq_true rfl) ?_
  intro p e s m args below meth c ls hx hb hml hown hr hlocks htab hE hh hl
  have hl : lv_has ls 7 [(0, .ref (b + 0)), (1, .int v0), (2, .int v1), (3, .int v2), (4, .int v3), (5, .ref (b + 136))] := hl
  refine lv_aload hx hb dL_search_0 (lv_at hl 5 rfl) ?_
  refine lv_iconst (v := (nI 0)) hx hb dL_search_2 (by decide) ?_
  refine lv_aload_n hx hb dL_search_3 rfl (lv_at hl 0 rfl) ?_
  refine lv_iload_n hx hb dL_search_4 rfl (lv_at hl 1 rfl) ?_
  refine lv_iload_n hx hb dL_search_5 rfl (lv_at hl 2 rfl) ?_
  refine lv_iload_n hx hb dL_search_6 rfl (lv_at hl 3 rfl) ?_
  refine lv_iload hx hb dL_search_7 (lv_at hl 4 rfl) ?_
  refine mm_V0 (As := [.int v0, .int v1, .int v2, .int v3]) (rest := [.int (nI 0), .ref (b + 136)]) hx hb hml hown hE hl.1 hh (kc_L_45 hE.2.1 ⟨by show _ ≤ 11; omega, by show _ ≤ 400; omega⟩) hc rfl (by omega) fH rfl rfl (Nat.le_of_ble_eq_true rfl) dL_search_9 h0.1 h0.2 (fun H locs mem1 hP hh => ?_)
  refine lv_i2l hx hb dL_search_12 rfl ?_
  obtain ⟨f, hf1⟩ := hf mem1 hP
  refine mm_last hx hb hE hh (k := 0) (by omega) hf1 (by decide) (by decide) dL_search_13 (fun H locs mem2 e2 k2 hh => ?_)
  refine lv_goto (tgt := 25) hx hb dL_search_14 (by decide) ?_
  refine lv_iconst (v := (nI 0)) hx hb dL_search_25 (by decide) ?_
  refine W.widen (k := 1) (n := 6) (by omega) (by omega) ?_
  exact mm_iret hx hb hr hlocks hE hh rfl ⟨mem1, f, hP, hf1, e2, k2⟩ dL_search_26
set_option maxHeartbeats 4000000 in
set_option maxRecDepth 100000 in
theorem wx_search_1 (l : Launch) (Γ : Gm) (b M : Nat) (mem : Nat → va_E) {v0 : Int32} {v1 : Int32} {v2 : Int32} {v3 : Int32} {fs : List Value} (hM : 138 ≤ M) (fH : mem 0 = .inr (8, fs)) {rm : Room} (h0 : rm.cells = 1 ∧ rm.slots = 6) (h1 : rm.frames ≤ 10 ∧ rm.locals ≤ 360) (hc : Cx l yX9_search (.code yX9_search cX9_search 5 (some .int)) rm Γ b M [.ref (b + 0), .int v0, .int v1, .int v2, .int v3] mem "java/lang/IllegalArgumentException") : Ct l yL_search kL_search RW Γ b M [.ref (b + 0), .int v0, .int v1, .int v2, .int v3, .ref (b + 136)] mem (fun u => u = mem) (some (.int (nI 1))) := by
  refine mw_enter (cc := cL_search) (by decide) (Nat.le_of_ble_eq_true rfl) ?_
  intro p e s m args below meth c ls hx hb hml hown hr hlocks htab hE hh hl
  have hl : lv_has ls 7 [(0, .ref (b + 0)), (1, .int v0), (2, .int v1), (3, .int v2), (4, .int v3), (5, .ref (b + 136))] := hl
  refine lv_aload hx hb dL_search_0 (lv_at hl 5 rfl) ?_
  refine lv_iconst (v := (nI 0)) hx hb dL_search_2 (by decide) ?_
  refine lv_aload_n hx hb dL_search_3 rfl (lv_at hl 0 rfl) ?_
  refine lv_iload_n hx hb dL_search_4 rfl (lv_at hl 1 rfl) ?_
  refine lv_iload_n hx hb dL_search_5 rfl (lv_at hl 2 rfl) ?_
  refine lv_iload_n hx hb dL_search_6 rfl (lv_at hl 3 rfl) ?_
  refine lv_iload hx hb dL_search_7 (lv_at hl 4 rfl) ?_
  refine mw_catch (As := [.int v0, .int v1, .int v2, .int v3]) (rest := [.int (nI 0), .ref (b + 136)]) (name := "java/lang/IllegalArgumentException") hx hb hml hown hE hl.1 hh (kc_L_45 hE.2.1 ⟨by show _ ≤ 11; omega, by show _ ≤ 400; omega⟩) hc rfl (by omega) fH rfl rfl (Nat.le_of_ble_eq_true rfl) dL_search_9 h0.1 h0.2 ⟨Nat.le_refl _, Nat.le_refl _⟩ [] ⟨0, 14, 17, 25⟩ [⟨0, 14, 21, 13⟩] (htab.trans rfl) ?_ (by decide) (by decide) (wcL_25 hE.2.1 args) (va_tabs rfl rfl (hE.2.2.1.2.2.1 ("java/lang/IllegalArgumentException", "java/lang/IllegalArgumentException") (List.mem_of_getElem? (i := 2) rfl))) (fun q H locs hh => ?_)
  · intro z hz; exact absurd hz List.not_mem_nil
  refine lv_astore (lv' := [(6, .ref q), (0, .ref (b + 0)), (1, .int v0), (2, .int v1), (3, .int v2), (4, .int v3), (5, .ref (b + 136))]) hx hb dL_search_17 hl (by decide) rfl (fun ls hl => ?_)
  refine lv_iconst (v := (nI 1)) hx hb dL_search_19 (by decide) ?_
  exact mm_iret hx hb hr hlocks hE hh rfl rfl dL_search_20
set_option maxHeartbeats 4000000 in
set_option maxRecDepth 100000 in
theorem wx_search_2 (l : Launch) (Γ : Gm) (b M : Nat) (mem : Nat → va_E) {v0 : Int32} {v1 : Int32} {v2 : Int32} {v3 : Int32} {fs : List Value} (hM : 138 ≤ M) (fH : mem 0 = .inr (8, fs)) {rm : Room} (h0 : rm.cells = 1 ∧ rm.slots = 6) (h1 : rm.frames ≤ 10 ∧ rm.locals ≤ 360) (hc : Cx l yX9_search (.code yX9_search cX9_search 5 (some .int)) rm Γ b M [.ref (b + 0), .int v0, .int v1, .int v2, .int v3] mem "java/lang/IllegalStateException") : Ct l yL_search kL_search RW Γ b M [.ref (b + 0), .int v0, .int v1, .int v2, .int v3, .ref (b + 136)] mem (fun u => u = mem) (some (.int (nI 2))) := by
  refine mw_enter (cc := cL_search) (by decide) (Nat.le_of_ble_eq_true rfl) ?_
  intro p e s m args below meth c ls hx hb hml hown hr hlocks htab hE hh hl
  have hl : lv_has ls 7 [(0, .ref (b + 0)), (1, .int v0), (2, .int v1), (3, .int v2), (4, .int v3), (5, .ref (b + 136))] := hl
  refine lv_aload hx hb dL_search_0 (lv_at hl 5 rfl) ?_
  refine lv_iconst (v := (nI 0)) hx hb dL_search_2 (by decide) ?_
  refine lv_aload_n hx hb dL_search_3 rfl (lv_at hl 0 rfl) ?_
  refine lv_iload_n hx hb dL_search_4 rfl (lv_at hl 1 rfl) ?_
  refine lv_iload_n hx hb dL_search_5 rfl (lv_at hl 2 rfl) ?_
  refine lv_iload_n hx hb dL_search_6 rfl (lv_at hl 3 rfl) ?_
  refine lv_iload hx hb dL_search_7 (lv_at hl 4 rfl) ?_
  refine mw_catch (As := [.int v0, .int v1, .int v2, .int v3]) (rest := [.int (nI 0), .ref (b + 136)]) (name := "java/lang/IllegalStateException") hx hb hml hown hE hl.1 hh (kc_L_45 hE.2.1 ⟨by show _ ≤ 11; omega, by show _ ≤ 400; omega⟩) hc rfl (by omega) fH rfl rfl (Nat.le_of_ble_eq_true rfl) dL_search_9 h0.1 h0.2 ⟨Nat.le_refl _, Nat.le_refl _⟩ [⟨0, 14, 17, 25⟩] ⟨0, 14, 21, 13⟩ [] (htab.trans rfl) ?_ (by decide) (by decide) (wcL_13 hE.2.1 args) (va_tabs rfl rfl (hE.2.2.1.2.2.1 ("java/lang/IllegalStateException", "java/lang/IllegalStateException") (List.mem_of_getElem? (i := 0) rfl))) (fun q H locs hh => ?_)
  · intro z hz
    simp only [List.mem_cons, List.not_mem_nil, or_false] at hz
    subst hz
    exact Or.inr ⟨by decide, "java/lang/IllegalArgumentException", wcL_25 hE.2.1 args, hE.2.2.1.2.2.2.1 ("java/lang/IllegalStateException", "java/lang/IllegalArgumentException") (List.mem_of_getElem? (i := 1) rfl)⟩
  refine lv_astore (lv' := [(6, .ref q), (0, .ref (b + 0)), (1, .int v0), (2, .int v1), (3, .int v2), (4, .int v3), (5, .ref (b + 136))]) hx hb dL_search_21 hl (by decide) rfl (fun ls hl => ?_)
  refine lv_iconst (v := (nI 2)) hx hb dL_search_23 (by decide) ?_
  exact mm_iret hx hb hr hlocks hE hh rfl rfl dL_search_24
abbrev hL_hit : List (Nat × Nat × Nat × Nat) := [(0, 10, 13, 25), (0, 10, 17, 52), (0, 10, 21, 19)]
abbrev kL_hit : Cond := .codeWith yL_hit cL_hit 5 (some .int) hL_hit
theorem wdL_hit {U : State} (h : EXg U) (A : Array Value) : (kL_hit).before A U = true := h _ (List.mem_of_getElem? (i := 765) (by decide +kernel)) (by decide +kernel) A
theorem wlL_hit {U : State} (h : EXg U) (A : Array Value) : (Cond.methodLink RL 122 yL_hit).before A U = true := h _ (List.mem_of_getElem? (i := 763) (by decide +kernel)) (by decide +kernel) A
theorem wsL_hit {U : State} (h : EXg U) (A : Array Value) : (Cond.static yL_hit).before A U = true := h _ (List.mem_of_getElem? (i := 764) (by decide +kernel)) (by decide +kernel) A
theorem kw_hit {R rm : Room} {s : State} {args : Array Value} (hE : EXg s) (hR : rm.frames + 1 ≤ R.frames ∧ 8 + (5 + 11) + rm.locals ≤ R.locals) : vx_CSW R s args RL 122 yL_hit cL_hit 5 (some .int) hL_hit [kL_hit] rm rm.cells rm.slots 4 := mw_cw 4 (fun A U h => wdL_hit h A) hE (wn_L hE args) (wlL_hit hE args) (wsL_hit hE args) (by decide +kernel) hR
set_option maxHeartbeats 4000000 in
set_option maxRecDepth 100000 in
theorem wr_hit (l : Launch) (Γ : Gm) (b M : Nat) (mem : Nat → va_E) {v0 : Int32} {v1 : Int32} {fs : List Value} (hM : 138 ≤ M) (fH : mem 0 = .inr (8, fs)) {rm : Room} {r : Int32} {P : (Nat → va_E) → Prop} (hf : ∀ u0, P u0 → ∃ f : Nat → Int64, u0 136 = aJ Γ 1 f) (h0 : rm.cells = 0 ∧ rm.slots = 0) (h1 : rm.frames ≤ 10 ∧ rm.locals ≤ 360) (hc : Ct l yX9_hit (.code yX9_hit cX9_hit 3 (some .int)) rm Γ b M [.ref (b + 0), .int v0, .int v1] mem P (some (.int r))) : Ct l yL_hit kL_hit RW Γ b M [.ref (b + 0), .int v0, .int v1, .ref (b + 136)] mem (fun u => ∃ (u0 : Nat → va_E) (f : Nat → Int64), P u0 ∧ u0 136 = aJ Γ 1 f ∧ u 136 = aJ Γ 1 (va_up f 0 (r.toInt64)) ∧ ∀ j, j ≠ 136 → u j = u0 j) (some (.int (nI 0))) := by
  refine mw_enter (cc := cL_hit) (by decide) (Nat.le_of_ble_eq_true rfl) ?_
  intro p e s m args below meth c ls hx hb hml hown hr hlocks htab hE hh hl
  have hl : lv_has ls 5 [(0, .ref (b + 0)), (1, .int v0), (2, .int v1), (3, .ref (b + 136))] := hl
  refine lv_aload_n hx hb dL_hit_0 rfl (lv_at hl 3 rfl) ?_
  refine lv_iconst (v := (nI 0)) hx hb dL_hit_1 (by decide) ?_
  refine lv_aload_n hx hb dL_hit_2 rfl (lv_at hl 0 rfl) ?_
  refine lv_iload_n hx hb dL_hit_3 rfl (lv_at hl 1 rfl) ?_
  refine lv_iload_n hx hb dL_hit_4 rfl (lv_at hl 2 rfl) ?_
  refine mm_V0 (As := [.int v0, .int v1]) (rest := [.int (nI 0), .ref (b + 136)]) hx hb hml hown hE hl.1 hh (kc_L_49 hE.2.1 ⟨by show _ ≤ 11; omega, by show _ ≤ 400; omega⟩) hc rfl (by omega) fH rfl rfl (Nat.le_of_ble_eq_true rfl) dL_hit_5 h0.1 h0.2 (fun H locs mem1 hP hh => ?_)
  refine lv_i2l hx hb dL_hit_8 rfl ?_
  obtain ⟨f, hf1⟩ := hf mem1 hP
  refine mm_last hx hb hE hh (k := 0) (by omega) hf1 (by decide) (by decide) dL_hit_9 (fun H locs mem2 e2 k2 hh => ?_)
  refine lv_goto (tgt := 25) hx hb dL_hit_10 (by decide) ?_
  refine lv_iconst (v := (nI 0)) hx hb dL_hit_25 (by decide) ?_
  refine W.widen (k := 1) (n := 6) (by omega) (by omega) ?_
  exact mm_iret hx hb hr hlocks hE hh rfl ⟨mem1, f, hP, hf1, e2, k2⟩ dL_hit_26
set_option maxHeartbeats 4000000 in
set_option maxRecDepth 100000 in
theorem wx_hit_1 (l : Launch) (Γ : Gm) (b M : Nat) (mem : Nat → va_E) {v0 : Int32} {v1 : Int32} {fs : List Value} (hM : 138 ≤ M) (fH : mem 0 = .inr (8, fs)) {rm : Room} (h0 : rm.cells = 1 ∧ rm.slots = 6) (h1 : rm.frames ≤ 10 ∧ rm.locals ≤ 360) (hc : Cx l yX9_hit (.code yX9_hit cX9_hit 3 (some .int)) rm Γ b M [.ref (b + 0), .int v0, .int v1] mem "java/lang/IllegalArgumentException") : Ct l yL_hit kL_hit RW Γ b M [.ref (b + 0), .int v0, .int v1, .ref (b + 136)] mem (fun u => u = mem) (some (.int (nI 1))) := by
  refine mw_enter (cc := cL_hit) (by decide) (Nat.le_of_ble_eq_true rfl) ?_
  intro p e s m args below meth c ls hx hb hml hown hr hlocks htab hE hh hl
  have hl : lv_has ls 5 [(0, .ref (b + 0)), (1, .int v0), (2, .int v1), (3, .ref (b + 136))] := hl
  refine lv_aload_n hx hb dL_hit_0 rfl (lv_at hl 3 rfl) ?_
  refine lv_iconst (v := (nI 0)) hx hb dL_hit_1 (by decide) ?_
  refine lv_aload_n hx hb dL_hit_2 rfl (lv_at hl 0 rfl) ?_
  refine lv_iload_n hx hb dL_hit_3 rfl (lv_at hl 1 rfl) ?_
  refine lv_iload_n hx hb dL_hit_4 rfl (lv_at hl 2 rfl) ?_
  refine mw_catch (As := [.int v0, .int v1]) (rest := [.int (nI 0), .ref (b + 136)]) (name := "java/lang/IllegalArgumentException") hx hb hml hown hE hl.1 hh (kc_L_49 hE.2.1 ⟨by show _ ≤ 11; omega, by show _ ≤ 400; omega⟩) hc rfl (by omega) fH rfl rfl (Nat.le_of_ble_eq_true rfl) dL_hit_5 h0.1 h0.2 ⟨Nat.le_refl _, Nat.le_refl _⟩ [] ⟨0, 10, 13, 25⟩ [⟨0, 10, 17, 52⟩, ⟨0, 10, 21, 19⟩] (htab.trans rfl) ?_ (by decide) (by decide) (wcL_25 hE.2.1 args) (va_tabs rfl rfl (hE.2.2.1.2.2.1 ("java/lang/IllegalArgumentException", "java/lang/IllegalArgumentException") (List.mem_of_getElem? (i := 2) rfl))) (fun q H locs hh => ?_)
  · intro z hz; exact absurd hz List.not_mem_nil
  refine lv_astore (lv' := [(4, .ref q), (0, .ref (b + 0)), (1, .int v0), (2, .int v1), (3, .ref (b + 136))]) hx hb dL_hit_13 hl (by decide) rfl (fun ls hl => ?_)
  refine lv_iconst (v := (nI 1)) hx hb dL_hit_15 (by decide) ?_
  exact mm_iret hx hb hr hlocks hE hh rfl rfl dL_hit_16
set_option maxHeartbeats 4000000 in
set_option maxRecDepth 100000 in
theorem wx_hit_2 (l : Launch) (Γ : Gm) (b M : Nat) (mem : Nat → va_E) {v0 : Int32} {v1 : Int32} {fs : List Value} (hM : 138 ≤ M) (fH : mem 0 = .inr (8, fs)) {rm : Room} (h0 : rm.cells = 1 ∧ rm.slots = 6) (h1 : rm.frames ≤ 10 ∧ rm.locals ≤ 360) (hc : Cx l yX9_hit (.code yX9_hit cX9_hit 3 (some .int)) rm Γ b M [.ref (b + 0), .int v0, .int v1] mem "java/util/NoSuchElementException") : Ct l yL_hit kL_hit RW Γ b M [.ref (b + 0), .int v0, .int v1, .ref (b + 136)] mem (fun u => u = mem) (some (.int (nI 2))) := by
  refine mw_enter (cc := cL_hit) (by decide) (Nat.le_of_ble_eq_true rfl) ?_
  intro p e s m args below meth c ls hx hb hml hown hr hlocks htab hE hh hl
  have hl : lv_has ls 5 [(0, .ref (b + 0)), (1, .int v0), (2, .int v1), (3, .ref (b + 136))] := hl
  refine lv_aload_n hx hb dL_hit_0 rfl (lv_at hl 3 rfl) ?_
  refine lv_iconst (v := (nI 0)) hx hb dL_hit_1 (by decide) ?_
  refine lv_aload_n hx hb dL_hit_2 rfl (lv_at hl 0 rfl) ?_
  refine lv_iload_n hx hb dL_hit_3 rfl (lv_at hl 1 rfl) ?_
  refine lv_iload_n hx hb dL_hit_4 rfl (lv_at hl 2 rfl) ?_
  refine mw_catch (As := [.int v0, .int v1]) (rest := [.int (nI 0), .ref (b + 136)]) (name := "java/util/NoSuchElementException") hx hb hml hown hE hl.1 hh (kc_L_49 hE.2.1 ⟨by show _ ≤ 11; omega, by show _ ≤ 400; omega⟩) hc rfl (by omega) fH rfl rfl (Nat.le_of_ble_eq_true rfl) dL_hit_5 h0.1 h0.2 ⟨Nat.le_refl _, Nat.le_refl _⟩ [⟨0, 10, 13, 25⟩] ⟨0, 10, 17, 52⟩ [⟨0, 10, 21, 19⟩] (htab.trans rfl) ?_ (by decide) (by decide) (wcL_52 hE.2.1 args) (va_tabs rfl rfl (hE.2.2.1.2.2.1 ("java/util/NoSuchElementException", "java/util/NoSuchElementException") (List.mem_of_getElem? (i := 3) rfl))) (fun q H locs hh => ?_)
  · intro z hz
    simp only [List.mem_cons, List.not_mem_nil, or_false] at hz
    subst hz
    exact Or.inr ⟨by decide, "java/lang/IllegalArgumentException", wcL_25 hE.2.1 args, hE.2.2.1.2.2.2.1 ("java/util/NoSuchElementException", "java/lang/IllegalArgumentException") (List.mem_of_getElem? (i := 11) rfl)⟩
  refine lv_astore (lv' := [(4, .ref q), (0, .ref (b + 0)), (1, .int v0), (2, .int v1), (3, .ref (b + 136))]) hx hb dL_hit_17 hl (by decide) rfl (fun ls hl => ?_)
  refine lv_iconst (v := (nI 2)) hx hb dL_hit_19 (by decide) ?_
  exact mm_iret hx hb hr hlocks hE hh rfl rfl dL_hit_20
set_option maxHeartbeats 4000000 in
set_option maxRecDepth 100000 in
theorem wx_hit_3 (l : Launch) (Γ : Gm) (b M : Nat) (mem : Nat → va_E) {v0 : Int32} {v1 : Int32} {fs : List Value} (hM : 138 ≤ M) (fH : mem 0 = .inr (8, fs)) {rm : Room} (h0 : rm.cells = 1 ∧ rm.slots = 6) (h1 : rm.frames ≤ 10 ∧ rm.locals ≤ 360) (hc : Cx l yX9_hit (.code yX9_hit cX9_hit 3 (some .int)) rm Γ b M [.ref (b + 0), .int v0, .int v1] mem "java/lang/IndexOutOfBoundsException") : Ct l yL_hit kL_hit RW Γ b M [.ref (b + 0), .int v0, .int v1, .ref (b + 136)] mem (fun u => u = mem) (some (.int (nI 3))) := by
  refine mw_enter (cc := cL_hit) (by decide) (Nat.le_of_ble_eq_true rfl) ?_
  intro p e s m args below meth c ls hx hb hml hown hr hlocks htab hE hh hl
  have hl : lv_has ls 5 [(0, .ref (b + 0)), (1, .int v0), (2, .int v1), (3, .ref (b + 136))] := hl
  refine lv_aload_n hx hb dL_hit_0 rfl (lv_at hl 3 rfl) ?_
  refine lv_iconst (v := (nI 0)) hx hb dL_hit_1 (by decide) ?_
  refine lv_aload_n hx hb dL_hit_2 rfl (lv_at hl 0 rfl) ?_
  refine lv_iload_n hx hb dL_hit_3 rfl (lv_at hl 1 rfl) ?_
  refine lv_iload_n hx hb dL_hit_4 rfl (lv_at hl 2 rfl) ?_
  refine mw_catch (As := [.int v0, .int v1]) (rest := [.int (nI 0), .ref (b + 136)]) (name := "java/lang/IndexOutOfBoundsException") hx hb hml hown hE hl.1 hh (kc_L_49 hE.2.1 ⟨by show _ ≤ 11; omega, by show _ ≤ 400; omega⟩) hc rfl (by omega) fH rfl rfl (Nat.le_of_ble_eq_true rfl) dL_hit_5 h0.1 h0.2 ⟨Nat.le_refl _, Nat.le_refl _⟩ [⟨0, 10, 13, 25⟩, ⟨0, 10, 17, 52⟩] ⟨0, 10, 21, 19⟩ [] (htab.trans rfl) ?_ (by decide) (by decide) (wcL_19 hE.2.1 args) (va_tabs rfl rfl (hE.2.2.1.2.2.1 ("java/lang/IndexOutOfBoundsException", "java/lang/IndexOutOfBoundsException") (List.mem_of_getElem? (i := 1) rfl))) (fun q H locs hh => ?_)
  · intro z hz
    simp only [List.mem_cons, List.not_mem_nil, or_false] at hz
    rcases hz with rfl | rfl
    · exact Or.inr ⟨by decide, "java/lang/IllegalArgumentException", wcL_25 hE.2.1 args, hE.2.2.1.2.2.2.1 ("java/lang/IndexOutOfBoundsException", "java/lang/IllegalArgumentException") (List.mem_of_getElem? (i := 4) rfl)⟩
    · exact Or.inr ⟨by decide, "java/util/NoSuchElementException", wcL_52 hE.2.1 args, hE.2.2.1.2.2.2.1 ("java/lang/IndexOutOfBoundsException", "java/util/NoSuchElementException") (List.mem_of_getElem? (i := 5) rfl)⟩
  refine lv_astore (lv' := [(4, .ref q), (0, .ref (b + 0)), (1, .int v0), (2, .int v1), (3, .ref (b + 136))]) hx hb dL_hit_21 hl (by decide) rfl (fun ls hl => ?_)
  refine lv_iconst (v := (nI 3)) hx hb dL_hit_23 (by decide) ?_
  exact mm_iret hx hb hr hlocks hE hh rfl rfl dL_hit_24
abbrev hL_score : List (Nat × Nat × Nat × Nat) := [(0, 9, 12, 25), (0, 9, 16, 52), (0, 9, 20, 19)]
abbrev kL_score : Cond := .codeWith yL_score cL_score 5 (some .int) hL_score
theorem wdL_score {U : State} (h : EXg U) (A : Array Value) : (kL_score).before A U = true := h _ (List.mem_of_getElem? (i := 811) (by decide +kernel)) (by decide +kernel) A
theorem wlL_score {U : State} (h : EXg U) (A : Array Value) : (Cond.methodLink RL 125 yL_score).before A U = true := h _ (List.mem_of_getElem? (i := 809) (by decide +kernel)) (by decide +kernel) A
theorem wsL_score {U : State} (h : EXg U) (A : Array Value) : (Cond.static yL_score).before A U = true := h _ (List.mem_of_getElem? (i := 810) (by decide +kernel)) (by decide +kernel) A
theorem kw_score {R rm : Room} {s : State} {args : Array Value} (hE : EXg s) (hR : rm.frames + 1 ≤ R.frames ∧ 8 + (5 + 11) + rm.locals ≤ R.locals) : vx_CSW R s args RL 125 yL_score cL_score 5 (some .int) hL_score [kL_score] rm rm.cells rm.slots 4 := mw_cw 4 (fun A U h => wdL_score h A) hE (wn_L hE args) (wlL_score hE args) (wsL_score hE args) (by decide +kernel) hR
set_option maxHeartbeats 4000000 in
set_option maxRecDepth 100000 in
theorem wr_score (l : Launch) (Γ : Gm) (b M : Nat) (mem : Nat → va_E) {v0 : Int32} {v1 : Int32} {fs : List Value} (hM : 138 ≤ M) (fH : mem 0 = .inr (8, fs)) {rm : Room} {r : UInt64} {P : (Nat → va_E) → Prop} (hf : ∀ u0, P u0 → ∃ f : Nat → UInt64, u0 137 = aD Γ 1 f) (h0 : rm.cells = 0 ∧ rm.slots = 0) (h1 : rm.frames ≤ 10 ∧ rm.locals ≤ 360) (hc : Ct l yX9_score (.code yX9_score cX9_score 3 (some .double)) rm Γ b M [.ref (b + 0), .int v0, .int v1] mem P (some (.double r))) : Ct l yL_score kL_score RW Γ b M [.ref (b + 0), .int v0, .int v1, .ref (b + 137)] mem (fun u => ∃ (u0 : Nat → va_E) (f : Nat → UInt64), P u0 ∧ u0 137 = aD Γ 1 f ∧ u 137 = aD Γ 1 (va_up f 0 r) ∧ ∀ j, j ≠ 137 → u j = u0 j) (some (.int (nI 0))) := by
  refine mw_enter (cc := cL_score) (by decide) (Nat.le_of_ble_eq_true rfl) ?_
  intro p e s m args below meth c ls hx hb hml hown hr hlocks htab hE hh hl
  have hl : lv_has ls 5 [(0, .ref (b + 0)), (1, .int v0), (2, .int v1), (3, .ref (b + 137))] := hl
  refine lv_aload_n hx hb dL_score_0 rfl (lv_at hl 3 rfl) ?_
  refine lv_iconst (v := (nI 0)) hx hb dL_score_1 (by decide) ?_
  refine lv_aload_n hx hb dL_score_2 rfl (lv_at hl 0 rfl) ?_
  refine lv_iload_n hx hb dL_score_3 rfl (lv_at hl 1 rfl) ?_
  refine lv_iload_n hx hb dL_score_4 rfl (lv_at hl 2 rfl) ?_
  refine mm_V0 (As := [.int v0, .int v1]) (rest := [.int (nI 0), .ref (b + 137)]) hx hb hml hown hE hl.1 hh (kc_L_54 hE.2.1 ⟨by show _ ≤ 11; omega, by show _ ≤ 400; omega⟩) hc rfl (by omega) fH rfl rfl (Nat.le_of_ble_eq_true rfl) dL_score_5 h0.1 h0.2 (fun H locs mem1 hP hh => ?_)
  obtain ⟨f, hf1⟩ := hf mem1 hP
  refine mm_dast hx hb hE hh (k := 0) (by omega) hf1 (by decide) (by decide) dL_score_8 (fun H locs mem2 e2 k2 hh => ?_)
  refine lv_goto (tgt := 24) hx hb dL_score_9 (by decide) ?_
  refine lv_iconst (v := (nI 0)) hx hb dL_score_24 (by decide) ?_
  refine W.widen (k := 1) (n := 6) (by omega) (by omega) ?_
  exact mm_iret hx hb hr hlocks hE hh rfl ⟨mem1, f, hP, hf1, e2, k2⟩ dL_score_25
set_option maxHeartbeats 4000000 in
set_option maxRecDepth 100000 in
theorem wx_score_1 (l : Launch) (Γ : Gm) (b M : Nat) (mem : Nat → va_E) {v0 : Int32} {v1 : Int32} {fs : List Value} (hM : 138 ≤ M) (fH : mem 0 = .inr (8, fs)) {rm : Room} (h0 : rm.cells = 1 ∧ rm.slots = 6) (h1 : rm.frames ≤ 10 ∧ rm.locals ≤ 360) (hc : Cx l yX9_score (.code yX9_score cX9_score 3 (some .double)) rm Γ b M [.ref (b + 0), .int v0, .int v1] mem "java/lang/IllegalArgumentException") : Ct l yL_score kL_score RW Γ b M [.ref (b + 0), .int v0, .int v1, .ref (b + 137)] mem (fun u => u = mem) (some (.int (nI 1))) := by
  refine mw_enter (cc := cL_score) (by decide) (Nat.le_of_ble_eq_true rfl) ?_
  intro p e s m args below meth c ls hx hb hml hown hr hlocks htab hE hh hl
  have hl : lv_has ls 5 [(0, .ref (b + 0)), (1, .int v0), (2, .int v1), (3, .ref (b + 137))] := hl
  refine lv_aload_n hx hb dL_score_0 rfl (lv_at hl 3 rfl) ?_
  refine lv_iconst (v := (nI 0)) hx hb dL_score_1 (by decide) ?_
  refine lv_aload_n hx hb dL_score_2 rfl (lv_at hl 0 rfl) ?_
  refine lv_iload_n hx hb dL_score_3 rfl (lv_at hl 1 rfl) ?_
  refine lv_iload_n hx hb dL_score_4 rfl (lv_at hl 2 rfl) ?_
  refine mw_catch (As := [.int v0, .int v1]) (rest := [.int (nI 0), .ref (b + 137)]) (name := "java/lang/IllegalArgumentException") hx hb hml hown hE hl.1 hh (kc_L_54 hE.2.1 ⟨by show _ ≤ 11; omega, by show _ ≤ 400; omega⟩) hc rfl (by omega) fH rfl rfl (Nat.le_of_ble_eq_true rfl) dL_score_5 h0.1 h0.2 ⟨Nat.le_refl _, Nat.le_refl _⟩ [] ⟨0, 9, 12, 25⟩ [⟨0, 9, 16, 52⟩, ⟨0, 9, 20, 19⟩] (htab.trans rfl) ?_ (by decide) (by decide) (wcL_25 hE.2.1 args) (va_tabs rfl rfl (hE.2.2.1.2.2.1 ("java/lang/IllegalArgumentException", "java/lang/IllegalArgumentException") (List.mem_of_getElem? (i := 2) rfl))) (fun q H locs hh => ?_)
  · intro z hz; exact absurd hz List.not_mem_nil
  refine lv_astore (lv' := [(4, .ref q), (0, .ref (b + 0)), (1, .int v0), (2, .int v1), (3, .ref (b + 137))]) hx hb dL_score_12 hl (by decide) rfl (fun ls hl => ?_)
  refine lv_iconst (v := (nI 1)) hx hb dL_score_14 (by decide) ?_
  exact mm_iret hx hb hr hlocks hE hh rfl rfl dL_score_15
set_option maxHeartbeats 4000000 in
set_option maxRecDepth 100000 in
theorem wx_score_2 (l : Launch) (Γ : Gm) (b M : Nat) (mem : Nat → va_E) {v0 : Int32} {v1 : Int32} {fs : List Value} (hM : 138 ≤ M) (fH : mem 0 = .inr (8, fs)) {rm : Room} (h0 : rm.cells = 1 ∧ rm.slots = 6) (h1 : rm.frames ≤ 10 ∧ rm.locals ≤ 360) (hc : Cx l yX9_score (.code yX9_score cX9_score 3 (some .double)) rm Γ b M [.ref (b + 0), .int v0, .int v1] mem "java/util/NoSuchElementException") : Ct l yL_score kL_score RW Γ b M [.ref (b + 0), .int v0, .int v1, .ref (b + 137)] mem (fun u => u = mem) (some (.int (nI 2))) := by
  refine mw_enter (cc := cL_score) (by decide) (Nat.le_of_ble_eq_true rfl) ?_
  intro p e s m args below meth c ls hx hb hml hown hr hlocks htab hE hh hl
  have hl : lv_has ls 5 [(0, .ref (b + 0)), (1, .int v0), (2, .int v1), (3, .ref (b + 137))] := hl
  refine lv_aload_n hx hb dL_score_0 rfl (lv_at hl 3 rfl) ?_
  refine lv_iconst (v := (nI 0)) hx hb dL_score_1 (by decide) ?_
  refine lv_aload_n hx hb dL_score_2 rfl (lv_at hl 0 rfl) ?_
  refine lv_iload_n hx hb dL_score_3 rfl (lv_at hl 1 rfl) ?_
  refine lv_iload_n hx hb dL_score_4 rfl (lv_at hl 2 rfl) ?_
  refine mw_catch (As := [.int v0, .int v1]) (rest := [.int (nI 0), .ref (b + 137)]) (name := "java/util/NoSuchElementException") hx hb hml hown hE hl.1 hh (kc_L_54 hE.2.1 ⟨by show _ ≤ 11; omega, by show _ ≤ 400; omega⟩) hc rfl (by omega) fH rfl rfl (Nat.le_of_ble_eq_true rfl) dL_score_5 h0.1 h0.2 ⟨Nat.le_refl _, Nat.le_refl _⟩ [⟨0, 9, 12, 25⟩] ⟨0, 9, 16, 52⟩ [⟨0, 9, 20, 19⟩] (htab.trans rfl) ?_ (by decide) (by decide) (wcL_52 hE.2.1 args) (va_tabs rfl rfl (hE.2.2.1.2.2.1 ("java/util/NoSuchElementException", "java/util/NoSuchElementException") (List.mem_of_getElem? (i := 3) rfl))) (fun q H locs hh => ?_)
  · intro z hz
    simp only [List.mem_cons, List.not_mem_nil, or_false] at hz
    subst hz
    exact Or.inr ⟨by decide, "java/lang/IllegalArgumentException", wcL_25 hE.2.1 args, hE.2.2.1.2.2.2.1 ("java/util/NoSuchElementException", "java/lang/IllegalArgumentException") (List.mem_of_getElem? (i := 11) rfl)⟩
  refine lv_astore (lv' := [(4, .ref q), (0, .ref (b + 0)), (1, .int v0), (2, .int v1), (3, .ref (b + 137))]) hx hb dL_score_16 hl (by decide) rfl (fun ls hl => ?_)
  refine lv_iconst (v := (nI 2)) hx hb dL_score_18 (by decide) ?_
  exact mm_iret hx hb hr hlocks hE hh rfl rfl dL_score_19
set_option maxHeartbeats 4000000 in
set_option maxRecDepth 100000 in
theorem wx_score_3 (l : Launch) (Γ : Gm) (b M : Nat) (mem : Nat → va_E) {v0 : Int32} {v1 : Int32} {fs : List Value} (hM : 138 ≤ M) (fH : mem 0 = .inr (8, fs)) {rm : Room} (h0 : rm.cells = 1 ∧ rm.slots = 6) (h1 : rm.frames ≤ 10 ∧ rm.locals ≤ 360) (hc : Cx l yX9_score (.code yX9_score cX9_score 3 (some .double)) rm Γ b M [.ref (b + 0), .int v0, .int v1] mem "java/lang/IndexOutOfBoundsException") : Ct l yL_score kL_score RW Γ b M [.ref (b + 0), .int v0, .int v1, .ref (b + 137)] mem (fun u => u = mem) (some (.int (nI 3))) := by
  refine mw_enter (cc := cL_score) (by decide) (Nat.le_of_ble_eq_true rfl) ?_
  intro p e s m args below meth c ls hx hb hml hown hr hlocks htab hE hh hl
  have hl : lv_has ls 5 [(0, .ref (b + 0)), (1, .int v0), (2, .int v1), (3, .ref (b + 137))] := hl
  refine lv_aload_n hx hb dL_score_0 rfl (lv_at hl 3 rfl) ?_
  refine lv_iconst (v := (nI 0)) hx hb dL_score_1 (by decide) ?_
  refine lv_aload_n hx hb dL_score_2 rfl (lv_at hl 0 rfl) ?_
  refine lv_iload_n hx hb dL_score_3 rfl (lv_at hl 1 rfl) ?_
  refine lv_iload_n hx hb dL_score_4 rfl (lv_at hl 2 rfl) ?_
  refine mw_catch (As := [.int v0, .int v1]) (rest := [.int (nI 0), .ref (b + 137)]) (name := "java/lang/IndexOutOfBoundsException") hx hb hml hown hE hl.1 hh (kc_L_54 hE.2.1 ⟨by show _ ≤ 11; omega, by show _ ≤ 400; omega⟩) hc rfl (by omega) fH rfl rfl (Nat.le_of_ble_eq_true rfl) dL_score_5 h0.1 h0.2 ⟨Nat.le_refl _, Nat.le_refl _⟩ [⟨0, 9, 12, 25⟩, ⟨0, 9, 16, 52⟩] ⟨0, 9, 20, 19⟩ [] (htab.trans rfl) ?_ (by decide) (by decide) (wcL_19 hE.2.1 args) (va_tabs rfl rfl (hE.2.2.1.2.2.1 ("java/lang/IndexOutOfBoundsException", "java/lang/IndexOutOfBoundsException") (List.mem_of_getElem? (i := 1) rfl))) (fun q H locs hh => ?_)
  · intro z hz
    simp only [List.mem_cons, List.not_mem_nil, or_false] at hz
    rcases hz with rfl | rfl
    · exact Or.inr ⟨by decide, "java/lang/IllegalArgumentException", wcL_25 hE.2.1 args, hE.2.2.1.2.2.2.1 ("java/lang/IndexOutOfBoundsException", "java/lang/IllegalArgumentException") (List.mem_of_getElem? (i := 4) rfl)⟩
    · exact Or.inr ⟨by decide, "java/util/NoSuchElementException", wcL_52 hE.2.1 args, hE.2.2.1.2.2.2.1 ("java/lang/IndexOutOfBoundsException", "java/util/NoSuchElementException") (List.mem_of_getElem? (i := 5) rfl)⟩
  refine lv_astore (lv' := [(4, .ref q), (0, .ref (b + 0)), (1, .int v0), (2, .int v1), (3, .ref (b + 137))]) hx hb dL_score_20 hl (by decide) rfl (fun ls hl => ?_)
  refine lv_iconst (v := (nI 3)) hx hb dL_score_22 (by decide) ?_
  exact mm_iret hx hb hr hlocks hE hh rfl rfl dL_score_23
abbrev hL_work : List (Nat × Nat × Nat × Nat) := [(0, 10, 13, 25), (0, 10, 17, 52)]
abbrev kL_work : Cond := .codeWith yL_work cL_work 5 (some .int) hL_work
theorem wdL_work {U : State} (h : EXg U) (A : Array Value) : (kL_work).before A U = true := h _ (List.mem_of_getElem? (i := 822) (by decide +kernel)) (by decide +kernel) A
theorem wlL_work {U : State} (h : EXg U) (A : Array Value) : (Cond.methodLink RL 129 yL_work).before A U = true := h _ (List.mem_of_getElem? (i := 820) (by decide +kernel)) (by decide +kernel) A
theorem wsL_work {U : State} (h : EXg U) (A : Array Value) : (Cond.static yL_work).before A U = true := h _ (List.mem_of_getElem? (i := 821) (by decide +kernel)) (by decide +kernel) A
theorem kw_work {R rm : Room} {s : State} {args : Array Value} (hE : EXg s) (hR : rm.frames + 1 ≤ R.frames ∧ 8 + (5 + 11) + rm.locals ≤ R.locals) : vx_CSW R s args RL 129 yL_work cL_work 5 (some .int) hL_work [kL_work] rm rm.cells rm.slots 4 := mw_cw 4 (fun A U h => wdL_work h A) hE (wn_L hE args) (wlL_work hE args) (wsL_work hE args) (by decide +kernel) hR
set_option maxHeartbeats 4000000 in
set_option maxRecDepth 100000 in
theorem wr_work (l : Launch) (Γ : Gm) (b M : Nat) (mem : Nat → va_E) {v0 : Int32} {v1 : Int32} {fs : List Value} (hM : 138 ≤ M) (fH : mem 0 = .inr (8, fs)) {rm : Room} {r : Int32} {P : (Nat → va_E) → Prop} (hf : ∀ u0, P u0 → ∃ f : Nat → Int64, u0 136 = aJ Γ 1 f) (h0 : rm.cells = 0 ∧ rm.slots = 0) (h1 : rm.frames ≤ 10 ∧ rm.locals ≤ 360) (hc : Ct l yX9_work (.code yX9_work cX9_work 4 (some .int)) rm Γ b M [.ref (b + 0), .int v0, .int v1] mem P (some (.int r))) : Ct l yL_work kL_work RW Γ b M [.ref (b + 0), .int v0, .int v1, .ref (b + 136)] mem (fun u => ∃ (u0 : Nat → va_E) (f : Nat → Int64), P u0 ∧ u0 136 = aJ Γ 1 f ∧ u 136 = aJ Γ 1 (va_up f 0 (r.toInt64)) ∧ ∀ j, j ≠ 136 → u j = u0 j) (some (.int (nI 0))) := by
  refine mw_enter (cc := cL_work) (by decide) (Nat.le_of_ble_eq_true rfl) ?_
  intro p e s m args below meth c ls hx hb hml hown hr hlocks htab hE hh hl
  have hl : lv_has ls 5 [(0, .ref (b + 0)), (1, .int v0), (2, .int v1), (3, .ref (b + 136))] := hl
  refine lv_aload_n hx hb dL_work_0 rfl (lv_at hl 3 rfl) ?_
  refine lv_iconst (v := (nI 0)) hx hb dL_work_1 (by decide) ?_
  refine lv_aload_n hx hb dL_work_2 rfl (lv_at hl 0 rfl) ?_
  refine lv_iload_n hx hb dL_work_3 rfl (lv_at hl 1 rfl) ?_
  refine lv_iload_n hx hb dL_work_4 rfl (lv_at hl 2 rfl) ?_
  refine mm_V0 (As := [.int v0, .int v1]) (rest := [.int (nI 0), .ref (b + 136)]) hx hb hml hown hE hl.1 hh (kc_L_58 hE.2.1 ⟨by show _ ≤ 11; omega, by show _ ≤ 400; omega⟩) hc rfl (by omega) fH rfl rfl (Nat.le_of_ble_eq_true rfl) dL_work_5 h0.1 h0.2 (fun H locs mem1 hP hh => ?_)
  refine lv_i2l hx hb dL_work_8 rfl ?_
  obtain ⟨f, hf1⟩ := hf mem1 hP
  refine mm_last hx hb hE hh (k := 0) (by omega) hf1 (by decide) (by decide) dL_work_9 (fun H locs mem2 e2 k2 hh => ?_)
  refine lv_goto (tgt := 21) hx hb dL_work_10 (by decide) ?_
  refine lv_iconst (v := (nI 0)) hx hb dL_work_21 (by decide) ?_
  refine W.widen (k := 1) (n := 6) (by omega) (by omega) ?_
  exact mm_iret hx hb hr hlocks hE hh rfl ⟨mem1, f, hP, hf1, e2, k2⟩ dL_work_22
set_option maxHeartbeats 4000000 in
set_option maxRecDepth 100000 in
theorem wx_work_1 (l : Launch) (Γ : Gm) (b M : Nat) (mem : Nat → va_E) {v0 : Int32} {v1 : Int32} {fs : List Value} (hM : 138 ≤ M) (fH : mem 0 = .inr (8, fs)) {rm : Room} (h0 : rm.cells = 1 ∧ rm.slots = 6) (h1 : rm.frames ≤ 10 ∧ rm.locals ≤ 360) (hc : Cx l yX9_work (.code yX9_work cX9_work 4 (some .int)) rm Γ b M [.ref (b + 0), .int v0, .int v1] mem "java/lang/IllegalArgumentException") : Ct l yL_work kL_work RW Γ b M [.ref (b + 0), .int v0, .int v1, .ref (b + 136)] mem (fun u => u = mem) (some (.int (nI 1))) := by
  refine mw_enter (cc := cL_work) (by decide) (Nat.le_of_ble_eq_true rfl) ?_
  intro p e s m args below meth c ls hx hb hml hown hr hlocks htab hE hh hl
  have hl : lv_has ls 5 [(0, .ref (b + 0)), (1, .int v0), (2, .int v1), (3, .ref (b + 136))] := hl
  refine lv_aload_n hx hb dL_work_0 rfl (lv_at hl 3 rfl) ?_
  refine lv_iconst (v := (nI 0)) hx hb dL_work_1 (by decide) ?_
  refine lv_aload_n hx hb dL_work_2 rfl (lv_at hl 0 rfl) ?_
  refine lv_iload_n hx hb dL_work_3 rfl (lv_at hl 1 rfl) ?_
  refine lv_iload_n hx hb dL_work_4 rfl (lv_at hl 2 rfl) ?_
  refine mw_catch (As := [.int v0, .int v1]) (rest := [.int (nI 0), .ref (b + 136)]) (name := "java/lang/IllegalArgumentException") hx hb hml hown hE hl.1 hh (kc_L_58 hE.2.1 ⟨by show _ ≤ 11; omega, by show _ ≤ 400; omega⟩) hc rfl (by omega) fH rfl rfl (Nat.le_of_ble_eq_true rfl) dL_work_5 h0.1 h0.2 ⟨Nat.le_refl _, Nat.le_refl _⟩ [] ⟨0, 10, 13, 25⟩ [⟨0, 10, 17, 52⟩] (htab.trans rfl) ?_ (by decide) (by decide) (wcL_25 hE.2.1 args) (va_tabs rfl rfl (hE.2.2.1.2.2.1 ("java/lang/IllegalArgumentException", "java/lang/IllegalArgumentException") (List.mem_of_getElem? (i := 2) rfl))) (fun q H locs hh => ?_)
  · intro z hz; exact absurd hz List.not_mem_nil
  refine lv_astore (lv' := [(4, .ref q), (0, .ref (b + 0)), (1, .int v0), (2, .int v1), (3, .ref (b + 136))]) hx hb dL_work_13 hl (by decide) rfl (fun ls hl => ?_)
  refine lv_iconst (v := (nI 1)) hx hb dL_work_15 (by decide) ?_
  exact mm_iret hx hb hr hlocks hE hh rfl rfl dL_work_16
set_option maxHeartbeats 4000000 in
set_option maxRecDepth 100000 in
theorem wx_work_2 (l : Launch) (Γ : Gm) (b M : Nat) (mem : Nat → va_E) {v0 : Int32} {v1 : Int32} {fs : List Value} (hM : 138 ≤ M) (fH : mem 0 = .inr (8, fs)) {rm : Room} (h0 : rm.cells = 1 ∧ rm.slots = 6) (h1 : rm.frames ≤ 10 ∧ rm.locals ≤ 360) (hc : Cx l yX9_work (.code yX9_work cX9_work 4 (some .int)) rm Γ b M [.ref (b + 0), .int v0, .int v1] mem "java/util/NoSuchElementException") : Ct l yL_work kL_work RW Γ b M [.ref (b + 0), .int v0, .int v1, .ref (b + 136)] mem (fun u => u = mem) (some (.int (nI 2))) := by
  refine mw_enter (cc := cL_work) (by decide) (Nat.le_of_ble_eq_true rfl) ?_
  intro p e s m args below meth c ls hx hb hml hown hr hlocks htab hE hh hl
  have hl : lv_has ls 5 [(0, .ref (b + 0)), (1, .int v0), (2, .int v1), (3, .ref (b + 136))] := hl
  refine lv_aload_n hx hb dL_work_0 rfl (lv_at hl 3 rfl) ?_
  refine lv_iconst (v := (nI 0)) hx hb dL_work_1 (by decide) ?_
  refine lv_aload_n hx hb dL_work_2 rfl (lv_at hl 0 rfl) ?_
  refine lv_iload_n hx hb dL_work_3 rfl (lv_at hl 1 rfl) ?_
  refine lv_iload_n hx hb dL_work_4 rfl (lv_at hl 2 rfl) ?_
  refine mw_catch (As := [.int v0, .int v1]) (rest := [.int (nI 0), .ref (b + 136)]) (name := "java/util/NoSuchElementException") hx hb hml hown hE hl.1 hh (kc_L_58 hE.2.1 ⟨by show _ ≤ 11; omega, by show _ ≤ 400; omega⟩) hc rfl (by omega) fH rfl rfl (Nat.le_of_ble_eq_true rfl) dL_work_5 h0.1 h0.2 ⟨Nat.le_refl _, Nat.le_refl _⟩ [⟨0, 10, 13, 25⟩] ⟨0, 10, 17, 52⟩ [] (htab.trans rfl) ?_ (by decide) (by decide) (wcL_52 hE.2.1 args) (va_tabs rfl rfl (hE.2.2.1.2.2.1 ("java/util/NoSuchElementException", "java/util/NoSuchElementException") (List.mem_of_getElem? (i := 3) rfl))) (fun q H locs hh => ?_)
  · intro z hz
    simp only [List.mem_cons, List.not_mem_nil, or_false] at hz
    subst hz
    exact Or.inr ⟨by decide, "java/lang/IllegalArgumentException", wcL_25 hE.2.1 args, hE.2.2.1.2.2.2.1 ("java/util/NoSuchElementException", "java/lang/IllegalArgumentException") (List.mem_of_getElem? (i := 11) rfl)⟩
  refine lv_astore (lv' := [(4, .ref q), (0, .ref (b + 0)), (1, .int v0), (2, .int v1), (3, .ref (b + 136))]) hx hb dL_work_17 hl (by decide) rfl (fun ls hl => ?_)
  refine lv_iconst (v := (nI 2)) hx hb dL_work_19 (by decide) ?_
  exact mm_iret hx hb hr hlocks hE hh rfl rfl dL_work_20
abbrev hL_fuse : List (Nat × Nat × Nat × Nat) := [(0, 9, 12, 25), (0, 9, 15, 13)]
abbrev kL_fuse : Cond := .codeWith yL_fuse cL_fuse 4 (some .int) hL_fuse
theorem wdL_fuse {U : State} (h : EXg U) (A : Array Value) : (kL_fuse).before A U = true := h _ (List.mem_of_getElem? (i := 842) (by decide +kernel)) (by decide +kernel) A
theorem wlL_fuse {U : State} (h : EXg U) (A : Array Value) : (Cond.methodLink RL 132 yL_fuse).before A U = true := h _ (List.mem_of_getElem? (i := 840) (by decide +kernel)) (by decide +kernel) A
theorem wsL_fuse {U : State} (h : EXg U) (A : Array Value) : (Cond.static yL_fuse).before A U = true := h _ (List.mem_of_getElem? (i := 841) (by decide +kernel)) (by decide +kernel) A
theorem kw_fuse {R rm : Room} {s : State} {args : Array Value} (hE : EXg s) (hR : rm.frames + 1 ≤ R.frames ∧ 8 + (4 + 11) + rm.locals ≤ R.locals) : vx_CSW R s args RL 132 yL_fuse cL_fuse 4 (some .int) hL_fuse [kL_fuse] rm rm.cells rm.slots 3 := mw_cw 3 (fun A U h => wdL_fuse h A) hE (wn_L hE args) (wlL_fuse hE args) (wsL_fuse hE args) (by decide +kernel) hR
set_option maxHeartbeats 4000000 in
set_option maxRecDepth 100000 in
theorem wr_fuse (l : Launch) (Γ : Gm) (b M : Nat) (mem : Nat → va_E) {v0 : Int32} {fs : List Value} (hM : 138 ≤ M) (fH : mem 0 = .inr (8, fs)) {rm : Room} {r : Int32} {P : (Nat → va_E) → Prop} (hf : ∀ u0, P u0 → ∃ f : Nat → Int64, u0 136 = aJ Γ 1 f) (h0 : rm.cells = 0 ∧ rm.slots = 0) (h1 : rm.frames ≤ 10 ∧ rm.locals ≤ 360) (hc : Ct l yX9_fuse (.code yX9_fuse cX9_fuse 2 (some .int)) rm Γ b M [.ref (b + 0), .int v0] mem P (some (.int r))) : Ct l yL_fuse kL_fuse RW Γ b M [.ref (b + 0), .int v0, .ref (b + 136)] mem (fun u => ∃ (u0 : Nat → va_E) (f : Nat → Int64), P u0 ∧ u0 136 = aJ Γ 1 f ∧ u 136 = aJ Γ 1 (va_up f 0 (r.toInt64)) ∧ ∀ j, j ≠ 136 → u j = u0 j) (some (.int (nI 0))) := by
  refine mw_enter (cc := cL_fuse) (by decide) (Nat.le_of_ble_eq_true rfl) ?_
  intro p e s m args below meth c ls hx hb hml hown hr hlocks htab hE hh hl
  have hl : lv_has ls 4 [(0, .ref (b + 0)), (1, .int v0), (2, .ref (b + 136))] := hl
  refine lv_aload_n hx hb dL_fuse_0 rfl (lv_at hl 2 rfl) ?_
  refine lv_iconst (v := (nI 0)) hx hb dL_fuse_1 (by decide) ?_
  refine lv_aload_n hx hb dL_fuse_2 rfl (lv_at hl 0 rfl) ?_
  refine lv_iload_n hx hb dL_fuse_3 rfl (lv_at hl 1 rfl) ?_
  refine mm_V0 (As := [.int v0]) (rest := [.int (nI 0), .ref (b + 136)]) hx hb hml hown hE hl.1 hh (kc_L_61 hE.2.1 ⟨by show _ ≤ 11; omega, by show _ ≤ 400; omega⟩) hc rfl (by omega) fH rfl rfl (Nat.le_of_ble_eq_true rfl) dL_fuse_4 h0.1 h0.2 (fun H locs mem1 hP hh => ?_)
  refine lv_i2l hx hb dL_fuse_7 rfl ?_
  obtain ⟨f, hf1⟩ := hf mem1 hP
  refine mm_last hx hb hE hh (k := 0) (by omega) hf1 (by decide) (by decide) dL_fuse_8 (fun H locs mem2 e2 k2 hh => ?_)
  refine lv_goto (tgt := 18) hx hb dL_fuse_9 (by decide) ?_
  refine lv_iconst (v := (nI 0)) hx hb dL_fuse_18 (by decide) ?_
  refine W.widen (k := 1) (n := 6) (by omega) (by omega) ?_
  exact mm_iret hx hb hr hlocks hE hh rfl ⟨mem1, f, hP, hf1, e2, k2⟩ dL_fuse_19
set_option maxHeartbeats 4000000 in
set_option maxRecDepth 100000 in
theorem wx_fuse_1 (l : Launch) (Γ : Gm) (b M : Nat) (mem : Nat → va_E) {v0 : Int32} {fs : List Value} (hM : 138 ≤ M) (fH : mem 0 = .inr (8, fs)) {rm : Room} (h0 : rm.cells = 1 ∧ rm.slots = 6) (h1 : rm.frames ≤ 10 ∧ rm.locals ≤ 360) (hc : Cx l yX9_fuse (.code yX9_fuse cX9_fuse 2 (some .int)) rm Γ b M [.ref (b + 0), .int v0] mem "java/lang/IllegalArgumentException") : Ct l yL_fuse kL_fuse RW Γ b M [.ref (b + 0), .int v0, .ref (b + 136)] mem (fun u => u = mem) (some (.int (nI 1))) := by
  refine mw_enter (cc := cL_fuse) (by decide) (Nat.le_of_ble_eq_true rfl) ?_
  intro p e s m args below meth c ls hx hb hml hown hr hlocks htab hE hh hl
  have hl : lv_has ls 4 [(0, .ref (b + 0)), (1, .int v0), (2, .ref (b + 136))] := hl
  refine lv_aload_n hx hb dL_fuse_0 rfl (lv_at hl 2 rfl) ?_
  refine lv_iconst (v := (nI 0)) hx hb dL_fuse_1 (by decide) ?_
  refine lv_aload_n hx hb dL_fuse_2 rfl (lv_at hl 0 rfl) ?_
  refine lv_iload_n hx hb dL_fuse_3 rfl (lv_at hl 1 rfl) ?_
  refine mw_catch (As := [.int v0]) (rest := [.int (nI 0), .ref (b + 136)]) (name := "java/lang/IllegalArgumentException") hx hb hml hown hE hl.1 hh (kc_L_61 hE.2.1 ⟨by show _ ≤ 11; omega, by show _ ≤ 400; omega⟩) hc rfl (by omega) fH rfl rfl (Nat.le_of_ble_eq_true rfl) dL_fuse_4 h0.1 h0.2 ⟨Nat.le_refl _, Nat.le_refl _⟩ [] ⟨0, 9, 12, 25⟩ [⟨0, 9, 15, 13⟩] (htab.trans rfl) ?_ (by decide) (by decide) (wcL_25 hE.2.1 args) (va_tabs rfl rfl (hE.2.2.1.2.2.1 ("java/lang/IllegalArgumentException", "java/lang/IllegalArgumentException") (List.mem_of_getElem? (i := 2) rfl))) (fun q H locs hh => ?_)
  · intro z hz; exact absurd hz List.not_mem_nil
  refine lv_astore_n (lv' := [(3, .ref q), (0, .ref (b + 0)), (1, .int v0), (2, .ref (b + 136))]) hx hb dL_fuse_12 rfl hl (by decide) rfl (fun ls hl => ?_)
  refine lv_iconst (v := (nI 1)) hx hb dL_fuse_13 (by decide) ?_
  exact mm_iret hx hb hr hlocks hE hh rfl rfl dL_fuse_14
set_option maxHeartbeats 4000000 in
set_option maxRecDepth 100000 in
theorem wx_fuse_2 (l : Launch) (Γ : Gm) (b M : Nat) (mem : Nat → va_E) {v0 : Int32} {fs : List Value} (hM : 138 ≤ M) (fH : mem 0 = .inr (8, fs)) {rm : Room} (h0 : rm.cells = 1 ∧ rm.slots = 6) (h1 : rm.frames ≤ 10 ∧ rm.locals ≤ 360) (hc : Cx l yX9_fuse (.code yX9_fuse cX9_fuse 2 (some .int)) rm Γ b M [.ref (b + 0), .int v0] mem "java/lang/IllegalStateException") : Ct l yL_fuse kL_fuse RW Γ b M [.ref (b + 0), .int v0, .ref (b + 136)] mem (fun u => u = mem) (some (.int (nI 2))) := by
  refine mw_enter (cc := cL_fuse) (by decide) (Nat.le_of_ble_eq_true rfl) ?_
  intro p e s m args below meth c ls hx hb hml hown hr hlocks htab hE hh hl
  have hl : lv_has ls 4 [(0, .ref (b + 0)), (1, .int v0), (2, .ref (b + 136))] := hl
  refine lv_aload_n hx hb dL_fuse_0 rfl (lv_at hl 2 rfl) ?_
  refine lv_iconst (v := (nI 0)) hx hb dL_fuse_1 (by decide) ?_
  refine lv_aload_n hx hb dL_fuse_2 rfl (lv_at hl 0 rfl) ?_
  refine lv_iload_n hx hb dL_fuse_3 rfl (lv_at hl 1 rfl) ?_
  refine mw_catch (As := [.int v0]) (rest := [.int (nI 0), .ref (b + 136)]) (name := "java/lang/IllegalStateException") hx hb hml hown hE hl.1 hh (kc_L_61 hE.2.1 ⟨by show _ ≤ 11; omega, by show _ ≤ 400; omega⟩) hc rfl (by omega) fH rfl rfl (Nat.le_of_ble_eq_true rfl) dL_fuse_4 h0.1 h0.2 ⟨Nat.le_refl _, Nat.le_refl _⟩ [⟨0, 9, 12, 25⟩] ⟨0, 9, 15, 13⟩ [] (htab.trans rfl) ?_ (by decide) (by decide) (wcL_13 hE.2.1 args) (va_tabs rfl rfl (hE.2.2.1.2.2.1 ("java/lang/IllegalStateException", "java/lang/IllegalStateException") (List.mem_of_getElem? (i := 0) rfl))) (fun q H locs hh => ?_)
  · intro z hz
    simp only [List.mem_cons, List.not_mem_nil, or_false] at hz
    subst hz
    exact Or.inr ⟨by decide, "java/lang/IllegalArgumentException", wcL_25 hE.2.1 args, hE.2.2.1.2.2.2.1 ("java/lang/IllegalStateException", "java/lang/IllegalArgumentException") (List.mem_of_getElem? (i := 1) rfl)⟩
  refine lv_astore_n (lv' := [(3, .ref q), (0, .ref (b + 0)), (1, .int v0), (2, .ref (b + 136))]) hx hb dL_fuse_15 rfl hl (by decide) rfl (fun ls hl => ?_)
  refine lv_iconst (v := (nI 2)) hx hb dL_fuse_16 (by decide) ?_
  exact mm_iret hx hb hr hlocks hE hh rfl rfl dL_fuse_17
abbrev hL_fused : List (Nat × Nat × Nat × Nat) := [(0, 9, 12, 19)]
abbrev kL_fused : Cond := .codeWith yL_fused cL_fused 4 (some .int) hL_fused
theorem wdL_fused {U : State} (h : EXg U) (A : Array Value) : (kL_fused).before A U = true := h _ (List.mem_of_getElem? (i := 872) (by decide +kernel)) (by decide +kernel) A
theorem wlL_fused {U : State} (h : EXg U) (A : Array Value) : (Cond.methodLink RL 135 yL_fused).before A U = true := h _ (List.mem_of_getElem? (i := 870) (by decide +kernel)) (by decide +kernel) A
theorem wsL_fused {U : State} (h : EXg U) (A : Array Value) : (Cond.static yL_fused).before A U = true := h _ (List.mem_of_getElem? (i := 871) (by decide +kernel)) (by decide +kernel) A
theorem kw_fused {R rm : Room} {s : State} {args : Array Value} (hE : EXg s) (hR : rm.frames + 1 ≤ R.frames ∧ 8 + (4 + 11) + rm.locals ≤ R.locals) : vx_CSW R s args RL 135 yL_fused cL_fused 4 (some .int) hL_fused [kL_fused] rm rm.cells rm.slots 3 := mw_cw 3 (fun A U h => wdL_fused h A) hE (wn_L hE args) (wlL_fused hE args) (wsL_fused hE args) (by decide +kernel) hR
set_option maxHeartbeats 4000000 in
set_option maxRecDepth 100000 in
theorem wr_fused (l : Launch) (Γ : Gm) (b M : Nat) (mem : Nat → va_E) {v0 : Int32} {fs : List Value} (hM : 138 ≤ M) (fH : mem 0 = .inr (8, fs)) {rm : Room} {r : Int32} {P : (Nat → va_E) → Prop} (hf : ∀ u0, P u0 → ∃ f : Nat → Int64, u0 136 = aJ Γ 1 f) (h0 : rm.cells = 0 ∧ rm.slots = 0) (h1 : rm.frames ≤ 10 ∧ rm.locals ≤ 360) (hc : Ct l yX9_fused (.code yX9_fused cX9_fused 2 (some .int)) rm Γ b M [.ref (b + 0), .int v0] mem P (some (.int r))) : Ct l yL_fused kL_fused RW Γ b M [.ref (b + 0), .int v0, .ref (b + 136)] mem (fun u => ∃ (u0 : Nat → va_E) (f : Nat → Int64), P u0 ∧ u0 136 = aJ Γ 1 f ∧ u 136 = aJ Γ 1 (va_up f 0 (r.toInt64)) ∧ ∀ j, j ≠ 136 → u j = u0 j) (some (.int (nI 0))) := by
  refine mw_enter (cc := cL_fused) (by decide) (Nat.le_of_ble_eq_true rfl) ?_
  intro p e s m args below meth c ls hx hb hml hown hr hlocks htab hE hh hl
  have hl : lv_has ls 4 [(0, .ref (b + 0)), (1, .int v0), (2, .ref (b + 136))] := hl
  refine lv_aload_n hx hb dL_fused_0 rfl (lv_at hl 2 rfl) ?_
  refine lv_iconst (v := (nI 0)) hx hb dL_fused_1 (by decide) ?_
  refine lv_aload_n hx hb dL_fused_2 rfl (lv_at hl 0 rfl) ?_
  refine lv_iload_n hx hb dL_fused_3 rfl (lv_at hl 1 rfl) ?_
  refine mm_V0 (As := [.int v0]) (rest := [.int (nI 0), .ref (b + 136)]) hx hb hml hown hE hl.1 hh (kc_L_64 hE.2.1 ⟨by show _ ≤ 11; omega, by show _ ≤ 400; omega⟩) hc rfl (by omega) fH rfl rfl (Nat.le_of_ble_eq_true rfl) dL_fused_4 h0.1 h0.2 (fun H locs mem1 hP hh => ?_)
  refine lv_i2l hx hb dL_fused_7 rfl ?_
  obtain ⟨f, hf1⟩ := hf mem1 hP
  refine mm_last hx hb hE hh (k := 0) (by omega) hf1 (by decide) (by decide) dL_fused_8 (fun H locs mem2 e2 k2 hh => ?_)
  refine lv_goto (tgt := 15) hx hb dL_fused_9 (by decide) ?_
  refine lv_iconst (v := (nI 0)) hx hb dL_fused_15 (by decide) ?_
  refine W.widen (k := 1) (n := 6) (by omega) (by omega) ?_
  exact mm_iret hx hb hr hlocks hE hh rfl ⟨mem1, f, hP, hf1, e2, k2⟩ dL_fused_16
set_option maxHeartbeats 4000000 in
set_option maxRecDepth 100000 in
theorem wx_fused_1 (l : Launch) (Γ : Gm) (b M : Nat) (mem : Nat → va_E) {v0 : Int32} {fs : List Value} (hM : 138 ≤ M) (fH : mem 0 = .inr (8, fs)) {rm : Room} (h0 : rm.cells = 1 ∧ rm.slots = 6) (h1 : rm.frames ≤ 10 ∧ rm.locals ≤ 360) (hc : Cx l yX9_fused (.code yX9_fused cX9_fused 2 (some .int)) rm Γ b M [.ref (b + 0), .int v0] mem "java/lang/IndexOutOfBoundsException") : Ct l yL_fused kL_fused RW Γ b M [.ref (b + 0), .int v0, .ref (b + 136)] mem (fun u => u = mem) (some (.int (nI 1))) := by
  refine mw_enter (cc := cL_fused) (by decide) (Nat.le_of_ble_eq_true rfl) ?_
  intro p e s m args below meth c ls hx hb hml hown hr hlocks htab hE hh hl
  have hl : lv_has ls 4 [(0, .ref (b + 0)), (1, .int v0), (2, .ref (b + 136))] := hl
  refine lv_aload_n hx hb dL_fused_0 rfl (lv_at hl 2 rfl) ?_
  refine lv_iconst (v := (nI 0)) hx hb dL_fused_1 (by decide) ?_
  refine lv_aload_n hx hb dL_fused_2 rfl (lv_at hl 0 rfl) ?_
  refine lv_iload_n hx hb dL_fused_3 rfl (lv_at hl 1 rfl) ?_
  refine mw_catch (As := [.int v0]) (rest := [.int (nI 0), .ref (b + 136)]) (name := "java/lang/IndexOutOfBoundsException") hx hb hml hown hE hl.1 hh (kc_L_64 hE.2.1 ⟨by show _ ≤ 11; omega, by show _ ≤ 400; omega⟩) hc rfl (by omega) fH rfl rfl (Nat.le_of_ble_eq_true rfl) dL_fused_4 h0.1 h0.2 ⟨Nat.le_refl _, Nat.le_refl _⟩ [] ⟨0, 9, 12, 19⟩ [] (htab.trans rfl) ?_ (by decide) (by decide) (wcL_19 hE.2.1 args) (va_tabs rfl rfl (hE.2.2.1.2.2.1 ("java/lang/IndexOutOfBoundsException", "java/lang/IndexOutOfBoundsException") (List.mem_of_getElem? (i := 1) rfl))) (fun q H locs hh => ?_)
  · intro z hz; exact absurd hz List.not_mem_nil
  refine lv_astore_n (lv' := [(3, .ref q), (0, .ref (b + 0)), (1, .int v0), (2, .ref (b + 136))]) hx hb dL_fused_12 rfl hl (by decide) rfl (fun ls hl => ?_)
  refine lv_iconst (v := (nI 1)) hx hb dL_fused_13 (by decide) ?_
  exact mm_iret hx hb hr hlocks hE hh rfl rfl dL_fused_14
abbrev hL_rating : List (Nat × Nat × Nat × Nat) := [(0, 8, 11, 19)]
abbrev kL_rating : Cond := .codeWith yL_rating cL_rating 4 (some .int) hL_rating
theorem wdL_rating {U : State} (h : EXg U) (A : Array Value) : (kL_rating).before A U = true := h _ (List.mem_of_getElem? (i := 883) (by decide +kernel)) (by decide +kernel) A
theorem wlL_rating {U : State} (h : EXg U) (A : Array Value) : (Cond.methodLink RL 138 yL_rating).before A U = true := h _ (List.mem_of_getElem? (i := 881) (by decide +kernel)) (by decide +kernel) A
theorem wsL_rating {U : State} (h : EXg U) (A : Array Value) : (Cond.static yL_rating).before A U = true := h _ (List.mem_of_getElem? (i := 882) (by decide +kernel)) (by decide +kernel) A
theorem kw_rating {R rm : Room} {s : State} {args : Array Value} (hE : EXg s) (hR : rm.frames + 1 ≤ R.frames ∧ 8 + (4 + 11) + rm.locals ≤ R.locals) : vx_CSW R s args RL 138 yL_rating cL_rating 4 (some .int) hL_rating [kL_rating] rm rm.cells rm.slots 3 := mw_cw 3 (fun A U h => wdL_rating h A) hE (wn_L hE args) (wlL_rating hE args) (wsL_rating hE args) (by decide +kernel) hR
set_option maxHeartbeats 4000000 in
set_option maxRecDepth 100000 in
theorem wr_rating (l : Launch) (Γ : Gm) (b M : Nat) (mem : Nat → va_E) {v0 : Int32} {fs : List Value} (hM : 138 ≤ M) (fH : mem 0 = .inr (8, fs)) {rm : Room} {r : UInt64} {P : (Nat → va_E) → Prop} (hf : ∀ u0, P u0 → ∃ f : Nat → UInt64, u0 137 = aD Γ 1 f) (h0 : rm.cells = 0 ∧ rm.slots = 0) (h1 : rm.frames ≤ 10 ∧ rm.locals ≤ 360) (hc : Ct l yX9_rating (.code yX9_rating cX9_rating 2 (some .double)) rm Γ b M [.ref (b + 0), .int v0] mem P (some (.double r))) : Ct l yL_rating kL_rating RW Γ b M [.ref (b + 0), .int v0, .ref (b + 137)] mem (fun u => ∃ (u0 : Nat → va_E) (f : Nat → UInt64), P u0 ∧ u0 137 = aD Γ 1 f ∧ u 137 = aD Γ 1 (va_up f 0 r) ∧ ∀ j, j ≠ 137 → u j = u0 j) (some (.int (nI 0))) := by
  refine mw_enter (cc := cL_rating) (by decide) (Nat.le_of_ble_eq_true rfl) ?_
  intro p e s m args below meth c ls hx hb hml hown hr hlocks htab hE hh hl
  have hl : lv_has ls 4 [(0, .ref (b + 0)), (1, .int v0), (2, .ref (b + 137))] := hl
  refine lv_aload_n hx hb dL_rating_0 rfl (lv_at hl 2 rfl) ?_
  refine lv_iconst (v := (nI 0)) hx hb dL_rating_1 (by decide) ?_
  refine lv_aload_n hx hb dL_rating_2 rfl (lv_at hl 0 rfl) ?_
  refine lv_iload_n hx hb dL_rating_3 rfl (lv_at hl 1 rfl) ?_
  refine mm_V0 (As := [.int v0]) (rest := [.int (nI 0), .ref (b + 137)]) hx hb hml hown hE hl.1 hh (kc_L_67 hE.2.1 ⟨by show _ ≤ 11; omega, by show _ ≤ 400; omega⟩) hc rfl (by omega) fH rfl rfl (Nat.le_of_ble_eq_true rfl) dL_rating_4 h0.1 h0.2 (fun H locs mem1 hP hh => ?_)
  obtain ⟨f, hf1⟩ := hf mem1 hP
  refine mm_dast hx hb hE hh (k := 0) (by omega) hf1 (by decide) (by decide) dL_rating_7 (fun H locs mem2 e2 k2 hh => ?_)
  refine lv_goto (tgt := 14) hx hb dL_rating_8 (by decide) ?_
  refine lv_iconst (v := (nI 0)) hx hb dL_rating_14 (by decide) ?_
  refine W.widen (k := 1) (n := 6) (by omega) (by omega) ?_
  exact mm_iret hx hb hr hlocks hE hh rfl ⟨mem1, f, hP, hf1, e2, k2⟩ dL_rating_15
set_option maxHeartbeats 4000000 in
set_option maxRecDepth 100000 in
theorem wx_rating_1 (l : Launch) (Γ : Gm) (b M : Nat) (mem : Nat → va_E) {v0 : Int32} {fs : List Value} (hM : 138 ≤ M) (fH : mem 0 = .inr (8, fs)) {rm : Room} (h0 : rm.cells = 1 ∧ rm.slots = 6) (h1 : rm.frames ≤ 10 ∧ rm.locals ≤ 360) (hc : Cx l yX9_rating (.code yX9_rating cX9_rating 2 (some .double)) rm Γ b M [.ref (b + 0), .int v0] mem "java/lang/IndexOutOfBoundsException") : Ct l yL_rating kL_rating RW Γ b M [.ref (b + 0), .int v0, .ref (b + 137)] mem (fun u => u = mem) (some (.int (nI 1))) := by
  refine mw_enter (cc := cL_rating) (by decide) (Nat.le_of_ble_eq_true rfl) ?_
  intro p e s m args below meth c ls hx hb hml hown hr hlocks htab hE hh hl
  have hl : lv_has ls 4 [(0, .ref (b + 0)), (1, .int v0), (2, .ref (b + 137))] := hl
  refine lv_aload_n hx hb dL_rating_0 rfl (lv_at hl 2 rfl) ?_
  refine lv_iconst (v := (nI 0)) hx hb dL_rating_1 (by decide) ?_
  refine lv_aload_n hx hb dL_rating_2 rfl (lv_at hl 0 rfl) ?_
  refine lv_iload_n hx hb dL_rating_3 rfl (lv_at hl 1 rfl) ?_
  refine mw_catch (As := [.int v0]) (rest := [.int (nI 0), .ref (b + 137)]) (name := "java/lang/IndexOutOfBoundsException") hx hb hml hown hE hl.1 hh (kc_L_67 hE.2.1 ⟨by show _ ≤ 11; omega, by show _ ≤ 400; omega⟩) hc rfl (by omega) fH rfl rfl (Nat.le_of_ble_eq_true rfl) dL_rating_4 h0.1 h0.2 ⟨Nat.le_refl _, Nat.le_refl _⟩ [] ⟨0, 8, 11, 19⟩ [] (htab.trans rfl) ?_ (by decide) (by decide) (wcL_19 hE.2.1 args) (va_tabs rfl rfl (hE.2.2.1.2.2.1 ("java/lang/IndexOutOfBoundsException", "java/lang/IndexOutOfBoundsException") (List.mem_of_getElem? (i := 1) rfl))) (fun q H locs hh => ?_)
  · intro z hz; exact absurd hz List.not_mem_nil
  refine lv_astore_n (lv' := [(3, .ref q), (0, .ref (b + 0)), (1, .int v0), (2, .ref (b + 137))]) hx hb dL_rating_11 rfl hl (by decide) rfl (fun ls hl => ?_)
  refine lv_iconst (v := (nI 1)) hx hb dL_rating_12 (by decide) ?_
  exact mm_iret hx hb hr hlocks hE hh rfl rfl dL_rating_13
abbrev hL_quantised : List (Nat × Nat × Nat × Nat) := [(0, 10, 13, 19)]
abbrev kL_quantised : Cond := .codeWith yL_quantised cL_quantised 5 (some .int) hL_quantised
theorem wdL_quantised {U : State} (h : EXg U) (A : Array Value) : (kL_quantised).before A U = true := h _ (List.mem_of_getElem? (i := 890) (by decide +kernel)) (by decide +kernel) A
theorem wlL_quantised {U : State} (h : EXg U) (A : Array Value) : (Cond.methodLink RL 149 yL_quantised).before A U = true := h _ (List.mem_of_getElem? (i := 888) (by decide +kernel)) (by decide +kernel) A
theorem wsL_quantised {U : State} (h : EXg U) (A : Array Value) : (Cond.static yL_quantised).before A U = true := h _ (List.mem_of_getElem? (i := 889) (by decide +kernel)) (by decide +kernel) A
theorem kw_quantised {R rm : Room} {s : State} {args : Array Value} (hE : EXg s) (hR : rm.frames + 1 ≤ R.frames ∧ 8 + (5 + 11) + rm.locals ≤ R.locals) : vx_CSW R s args RL 149 yL_quantised cL_quantised 5 (some .int) hL_quantised [kL_quantised] rm rm.cells rm.slots 4 := mw_cw 4 (fun A U h => wdL_quantised h A) hE (wn_L hE args) (wlL_quantised hE args) (wsL_quantised hE args) (by decide +kernel) hR
set_option maxHeartbeats 4000000 in
set_option maxRecDepth 100000 in
theorem wr_quantised (l : Launch) (Γ : Gm) (b M : Nat) (mem : Nat → va_E) {v0 : Int32} {v1 : Int32} {fs : List Value} (hM : 138 ≤ M) (fH : mem 0 = .inr (8, fs)) {rm : Room} {r : Int32} {P : (Nat → va_E) → Prop} (hf : ∀ u0, P u0 → ∃ f : Nat → Int64, u0 136 = aJ Γ 1 f) (h0 : rm.cells = 0 ∧ rm.slots = 0) (h1 : rm.frames ≤ 10 ∧ rm.locals ≤ 360) (hc : Ct l yX9_quantised (.code yX9_quantised cX9_quantised 3 (some .int)) rm Γ b M [.ref (b + 0), .int v0, .int v1] mem P (some (.int r))) : Ct l yL_quantised kL_quantised RW Γ b M [.ref (b + 0), .int v0, .int v1, .ref (b + 136)] mem (fun u => ∃ (u0 : Nat → va_E) (f : Nat → Int64), P u0 ∧ u0 136 = aJ Γ 1 f ∧ u 136 = aJ Γ 1 (va_up f 0 (r.toInt64)) ∧ ∀ j, j ≠ 136 → u j = u0 j) (some (.int (nI 0))) := by
  refine mw_enter (cc := cL_quantised) (by decide) (Nat.le_of_ble_eq_true rfl) ?_
  intro p e s m args below meth c ls hx hb hml hown hr hlocks htab hE hh hl
  have hl : lv_has ls 5 [(0, .ref (b + 0)), (1, .int v0), (2, .int v1), (3, .ref (b + 136))] := hl
  refine lv_aload_n hx hb dL_quantised_0 rfl (lv_at hl 3 rfl) ?_
  refine lv_iconst (v := (nI 0)) hx hb dL_quantised_1 (by decide) ?_
  refine lv_aload_n hx hb dL_quantised_2 rfl (lv_at hl 0 rfl) ?_
  refine lv_iload_n hx hb dL_quantised_3 rfl (lv_at hl 1 rfl) ?_
  refine lv_iload_n hx hb dL_quantised_4 rfl (lv_at hl 2 rfl) ?_
  refine mm_V0 (As := [.int v0, .int v1]) (rest := [.int (nI 0), .ref (b + 136)]) hx hb hml hown hE hl.1 hh (kc_L_71 hE.2.1 ⟨by show _ ≤ 11; omega, by show _ ≤ 400; omega⟩) hc rfl (by omega) fH rfl rfl (Nat.le_of_ble_eq_true rfl) dL_quantised_5 h0.1 h0.2 (fun H locs mem1 hP hh => ?_)
  refine lv_i2l hx hb dL_quantised_8 rfl ?_
  obtain ⟨f, hf1⟩ := hf mem1 hP
  refine mm_last hx hb hE hh (k := 0) (by omega) hf1 (by decide) (by decide) dL_quantised_9 (fun H locs mem2 e2 k2 hh => ?_)
  refine lv_goto (tgt := 17) hx hb dL_quantised_10 (by decide) ?_
  refine lv_iconst (v := (nI 0)) hx hb dL_quantised_17 (by decide) ?_
  refine W.widen (k := 1) (n := 6) (by omega) (by omega) ?_
  exact mm_iret hx hb hr hlocks hE hh rfl ⟨mem1, f, hP, hf1, e2, k2⟩ dL_quantised_18
set_option maxHeartbeats 4000000 in
set_option maxRecDepth 100000 in
theorem wx_quantised_1 (l : Launch) (Γ : Gm) (b M : Nat) (mem : Nat → va_E) {v0 : Int32} {v1 : Int32} {fs : List Value} (hM : 138 ≤ M) (fH : mem 0 = .inr (8, fs)) {rm : Room} (h0 : rm.cells = 1 ∧ rm.slots = 6) (h1 : rm.frames ≤ 10 ∧ rm.locals ≤ 360) (hc : Cx l yX9_quantised (.code yX9_quantised cX9_quantised 3 (some .int)) rm Γ b M [.ref (b + 0), .int v0, .int v1] mem "java/lang/IndexOutOfBoundsException") : Ct l yL_quantised kL_quantised RW Γ b M [.ref (b + 0), .int v0, .int v1, .ref (b + 136)] mem (fun u => u = mem) (some (.int (nI 1))) := by
  refine mw_enter (cc := cL_quantised) (by decide) (Nat.le_of_ble_eq_true rfl) ?_
  intro p e s m args below meth c ls hx hb hml hown hr hlocks htab hE hh hl
  have hl : lv_has ls 5 [(0, .ref (b + 0)), (1, .int v0), (2, .int v1), (3, .ref (b + 136))] := hl
  refine lv_aload_n hx hb dL_quantised_0 rfl (lv_at hl 3 rfl) ?_
  refine lv_iconst (v := (nI 0)) hx hb dL_quantised_1 (by decide) ?_
  refine lv_aload_n hx hb dL_quantised_2 rfl (lv_at hl 0 rfl) ?_
  refine lv_iload_n hx hb dL_quantised_3 rfl (lv_at hl 1 rfl) ?_
  refine lv_iload_n hx hb dL_quantised_4 rfl (lv_at hl 2 rfl) ?_
  refine mw_catch (As := [.int v0, .int v1]) (rest := [.int (nI 0), .ref (b + 136)]) (name := "java/lang/IndexOutOfBoundsException") hx hb hml hown hE hl.1 hh (kc_L_71 hE.2.1 ⟨by show _ ≤ 11; omega, by show _ ≤ 400; omega⟩) hc rfl (by omega) fH rfl rfl (Nat.le_of_ble_eq_true rfl) dL_quantised_5 h0.1 h0.2 ⟨Nat.le_refl _, Nat.le_refl _⟩ [] ⟨0, 10, 13, 19⟩ [] (htab.trans rfl) ?_ (by decide) (by decide) (wcL_19 hE.2.1 args) (va_tabs rfl rfl (hE.2.2.1.2.2.1 ("java/lang/IndexOutOfBoundsException", "java/lang/IndexOutOfBoundsException") (List.mem_of_getElem? (i := 1) rfl))) (fun q H locs hh => ?_)
  · intro z hz; exact absurd hz List.not_mem_nil
  refine lv_astore (lv' := [(4, .ref q), (0, .ref (b + 0)), (1, .int v0), (2, .int v1), (3, .ref (b + 136))]) hx hb dL_quantised_13 hl (by decide) rfl (fun ls hl => ?_)
  refine lv_iconst (v := (nI 1)) hx hb dL_quantised_15 (by decide) ?_
  exact mm_iret hx hb hr hlocks hE hh rfl rfl dL_quantised_16
