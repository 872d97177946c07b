/-! a constructor that hands its text on by another entry than 7: as the library's laws of a constructor that throws, with the chain's first link by its own code -/
def nb13 : ByteArray := ⟨#[0x2a, 0x2b, 0xb7, 0x00, 0x0d, 0xb1]⟩
theorem nb13_0 : decode nb13 0 = .ok (.aload_n 0, 1) := by decide +kernel
theorem nb13_1 : decode nb13 1 = .ok (.aload_n 1, 1) := by decide +kernel
theorem nb13_2 : decode nb13 2 = .ok (.invokespecial 13, 3) := by decide +kernel
theorem nb13_5 : decode nb13 5 = .ok (.return_, 1) := by decide +kernel
section NX
variable {p : Program} {l : Launch} {e : Env} {R : Room} {s : State} {m₀ : MethodId} {args : Array Value} {below : List Frame} {meth : Method} {c : Code} {V : State} {locs : List Loc} {cells slots : Nat}
set_option maxHeartbeats 1000000 in
theorem nx_ctor (X : Stand p l e R s m₀ args below meth c V locs cells slots) (hexec : p.tables.exec = Jvm.exec) (htr : e.platform.stackTraces = false) {own cls : String} {names : List String} {ic ix : Nat} {rx : ByteArray}
    (x0 : decode rx 0 = .ok (.aload_n 0, 1)) (x1 : decode rx 1 = .ok (.aload_n 1, 1)) (x2 : decode rx 2 = .ok (.invokespecial ix, 3)) (x5 : decode rx 5 = .ok (.return_, 1))
    (hown : s.vm.findClass own = some m₀.cls) (hcls : Bundle.fit cls = true) (hnames : ∀ n ∈ names, Bundle.fit n = true)
    (h : ∀ a ∈ Bundle.ownAtomsX own ic cls ix rx names, a.before args s = true)
    (hlocs : ∀ x ∈ locs, ∀ cell, s.heap[x.base]? = some cell → cell.vm.isStatics = false)
    {a : Addr} {cX : ClassId} {kX : Class} (hfoundX : s.vm.findClass cls = some cX) (hkX : s.vm.classes[cX]? = some kX) (hcell : V.heap[a]? = some (freshCell cX kX)) (hnew : s.heap.size ≤ a)
    {msg : Value} (hmsg : msg.isRef = true)
    {g : JFrame} (hg : g.method = m₀) (hsize : g.locals.size = c.maxLocals) (hlocked : g.locked = none) (hentered : g.entered = []) {rest : List Value} (hstack : g.stack = msg :: .ref a :: .ref a :: rest)
    (hd6 : decode c.code g.pc = .ok (.invokespecial ic, 3)) (hd9 : decode c.code (g.pc + 3) = .ok (.athrow, 1)) (hout : ∀ x ∈ c.exceptionTable.toList, covers x (g.pc + 3) = false)
    (hRframes : names.length + 3 < R.frames) (hRlocals : 2 * g.monitorRoom + ((Value.ref a :: rest).map fun v => v.category).sum + (13 * (names.length + 1) + 42) ≤ R.locals) (hlocks : meth.locks = false) :
    ∃ U : State, Steps p.tables e below (V.setTop g) U ∧ U.status = .running ∧ Ended U below (.threw a) ∧ s.WarmedH U.vm ∧ s.sameButNew ({ U with vm := s.vm } : State) locs cells slots ∧
      ∃ ce, U.heap[a]? = some ce ∧ ce.cls = cX ∧ ce.vm = .none := by
  have hpl : e.platform.magicAccessors = ({} : Platform).magicAccessors := by rw [X.admits.platform]
  obtain ⟨T, Z0, L, -, Y⟩ := ThrowableC.of_atoms (args := args) (show e.platform.frameOwnsMonitors = true by rw [X.admits.platform]) (show e.platform.finalization = false by rw [X.admits.platform]) hpl (fun x hx => h x (by simp [Bundle.ownAtomsX, hx]))
  obtain ⟨Z, M, LZ, LM, hnZ⟩ := Init0T.ofS_atoms (args := args) hpl L Y (fun x hx => h x (by simp [Bundle.ownAtomsX, hx]))
  obtain ⟨P1, Ps, hlen, L1, hL, hP1m, hlink1, hlink⟩ := Bundle.chainSX (args := args) hpl hnZ x0 x1 x2 x5 names cls hcls hnames (fun x hx => h x (by simp [Bundle.ownAtomsX, hx]))
  have hfound : s.vm.findClass cls = some P1.m.cls := findClass_of_methodNamed hP1m
  cases Option.some.inj (hfoundX.symm.trans hfound)
  obtain ⟨c1, kX', hc1, hk, hord, -, -, hn6⟩ := Cond.instantiable_spec (h (.instantiable cls 6) (by simp [Bundle.ownAtomsX]))
  cases Option.some.inj (hc1.symm.trans hfound)
  cases Option.some.inj (hkX.symm.trans hk)
  have sel : ∀ {t : MethodName} {i : MethodId}, (Cond.selects cls t t).before args s = true → s.methodNamed? t = some i → t.cls ≠ "java/lang/invoke/MethodHandle" ∧ t.cls ≠ "java/lang/invoke/VarHandle" → selectMethod e.platform s.vm P1.m.cls i = .method i := by
    intro t i hs hn ht
    obtain ⟨c2, r2, m2, q1, q2, q3, q4, -⟩ := Cond.selects_spec hs
    cases Option.some.inj (q1.symm.trans hfound)
    cases Option.some.inj (q2.symm.trans (State.methodFound?_of_named hn ht))
    cases Option.some.inj (q3.symm.trans hn)
    rw [Launch.admits_selectMethod X.admits]
    exact q4
  have hsel0 := sel (h (.selects cls Bundle.tFill0 Bundle.tFill0) (by simp [Bundle.ownAtomsX])) Y.fill0 (by decide)
  have hselF := sel (h (.selects cls Bundle.tFill Bundle.tFill) (by simp [Bundle.ownAtomsX])) Y.fill (by decide)
  obtain ⟨cellS0, hcS0, hiss⟩ := Y.statics
  obtain ⟨u0, hu0⟩ := Cond.staticRefV Y.unassigned L.unassignedStatic L.statics hcS0 hiss (h (.isRef (.static Bundle.tN "UNASSIGNED_STACK" Bundle.steD)) (by simp [Bundle.ownAtomsX]))
  obtain ⟨sen, hsen⟩ := Cond.staticRefV Y.sentinel L.sentinelStatic L.statics hcS0 hiss (h (.isRef (.static Bundle.tN "SUPPRESSED_SENTINEL" Bundle.listD)) (by simp [Bundle.ownAtomsX]))
  obtain ⟨ci198, i198, fB, hk198, hg198, ha198, hsB, -, hnB, htB, hffB⟩ := Cond.ownField (t := .object "java/lang/Object") Y.found L.cls (by decide +kernel) (h (.fieldLink Bundle.tN 198 Bundle.tN "backtrace" "Ljava/lang/Object;") (by simp [Bundle.ownAtomsX])) (h (.lays Bundle.tN Bundle.tN "backtrace" "Ljava/lang/Object;") (by simp [Bundle.ownAtomsX])) e.platform hpl
  obtain ⟨cellS, hcS', heS, -, hkeep⟩ := X.same.2.2.2.2.2 T.aS cellS0 hcS0
  have hout' : ∀ i, (⟨T.aS, i⟩ : Loc) ∉ locs := fun i hmem => by
    have h9 := hlocs _ hmem cellS0 hcS0
    rw [hiss] at h9
    cases h9
  have hknownS : cellS.vm ≠ .unknown := by
    rw [heS]
    intro hu
    rw [show cellS0.vm = .unknown from hu] at hiss
    cases hiss
  have hneS : T.aS ≠ a := Nat.ne_of_lt (Nat.lt_of_lt_of_le (Array.getElem?_eq_some_iff.mp hcS0).1 hnew)
  obtain ⟨iM, hffM⟩ := Y.msg
  obtain ⟨tyC, dC, hdC, hdnC⟩ := Cond.laysAt hfound hk Y.cause (h (.lays cls Bundle.tN "cause" "Ljava/lang/Throwable;") (by simp [Bundle.ownAtomsX]))
  obtain ⟨tyS, dS, hdS, hdnS⟩ := Cond.laysAt hfound hk Y.stack (h (.lays cls Bundle.tN "stackTrace" Bundle.steD) (by simp [Bundle.ownAtomsX]))
  obtain ⟨tyP, dP, hdP, hdnP⟩ := Cond.laysAt hfound hk Y.supp (h (.lays cls Bundle.tN "suppressedExceptions" Bundle.listD) (by simp [Bundle.ownAtomsX]))
  obtain ⟨tyM, dM, hdM, hdnM⟩ := Cond.laysAt hfound hk hffM (h (.lays cls Bundle.tN "detailMessage" "Ljava/lang/String;") (by simp [Bundle.ownAtomsX]))
  obtain ⟨tyB, dB, hdB, hdnB⟩ := Cond.laysAt hfound hk hffB (h (.lays cls Bundle.tN "backtrace" "Ljava/lang/Object;") (by simp [Bundle.ownAtomsX]))
  have bC := Cond.laysApart hdB hdC hdnB hdnC (by rw [hnB, Y.causeName]; decide)
  have bS := Cond.laysApart hdB hdS hdnB hdnS (by rw [hnB, Y.stackName]; decide)
  have bP := Cond.laysApart hdB hdP hdnB hdnP (by rw [hnB, Y.suppName]; decide)
  have hskip : SkipFacts T e.platform s (fun u => u) u0 ((preparedCellV T.toThrowableT (freshCell P1.m.cls kX) a u0 sen).withEntry V.cur) :=
    ⟨{ ci198 := ci198, i198 := i198, fBack := fB }, ⟨hk198, hg198, ha198, hsB⟩, by
      have h9 := fresh_default (c := P1.m.cls) tyB
      rw [htB] at h9
      simpa [preparedCellV, Cell.setSlot, Cell.withEntry, Array.getElem?_setIfInBounds, bC, bS, bP, bC.symm, bS.symm, bP.symm, defaultValue] using h9, fun _ _ => rfl⟩
  obtain ⟨tm, methC, cdC, kC, vm₁, hnC, -, -, -, -, -, -, -, hW₁, st1⟩ := Steps.initColdS (tb := p.tables) (e := e) (below := below) (s := s) (U := V) X.here hexec X.warmed hpl hown (t := Bundle.initS cls) rfl rfl (Bundle.fit_spec hcls).2
    (h (.methodLink own ic (Bundle.initS cls)) (by simp [Bundle.ownAtomsX])) (h (.instanceMethod (Bundle.initS cls)) (by cases names <;> simp [Bundle.ownAtomsX, Bundle.chainSAtomsX, Bundle.passSAtoms])) (bytes := rx) (maxL := 2) (h (.code (Bundle.initS cls) rx 2 none) (by cases names <;> simp [Bundle.ownAtomsX, Bundle.chainSAtomsX, Bundle.passSAtoms]))
    (f := g) hg (a := a) (msg := msg) (rest := .ref a :: rest) hstack hd6
  cases Option.some.inj (hnC.symm.trans hP1m)
  obtain ⟨vm₂, X₂, st2⟩ := (X.noted hW₁).ctorMessageOffV hexec (g := { g with stack := .ref a :: rest }) hg hsize T L Z LZ M LM (P1 :: Ps)
    (fun P hP => (List.mem_cons.mp hP).elim (fun q => by rw [q]; exact L1) (hL P)) ⟨hlink1, hlink⟩ (u0 := u0) (sen := sen) (self := a) hmsg (cell := freshCell P1.m.cls kX) (cellS := cellS)
    hcell (fun _ => by simp) (by simp) rfl rfl hsel0 hselF hcS' hneS hknownS (by rw [hkeep _ (hout' _)]; exact hu0) (by rw [hkeep _ (hout' _)]; exact hsen)
    (Takes.of_laid hk hord tyC (by rw [Y.causeType]; rfl)) (Takes.of_laid hk hord tyS (by rw [Y.stackType]; exact fits_refV_array _ u0)) (Takes.of_laid hk hord tyP (by rw [Y.suppType]; exact fits_refV_object _ sen))
    (Takes.of_laid hk hord tyM (by rw [Y.msgType]; exact fits_refV_object _ ⟨msg, hmsg⟩)) Y.objLocals hskip htr [] hd6
    (by simp only [List.length_cons, hlen]; omega) (by simp only [List.length_cons, hlen]; exact hRlocals)
  obtain ⟨hwalk, hrun, hended, hWU, hsame⟩ := X₂.athrowLeaves hexec (g := { g with stack := .ref a :: rest, pc := g.pc + 3 }) hg hlocked hentered hout (a := a) (rest := rest) rfl hd9
  have hU := heapAt_setCell_self (s := (V.setVm vm₁).setVm vm₂) (plainBareV T.toThrowableT (freshCell P1.m.cls kX) a u0 sen msg) (Array.getElem?_eq_some_iff.mp hcell).1
  refine ⟨_, st1 _ (fun acts => ?_), hrun, hended, hWU, hsame.weaken (fun y hy hlt' => ?_) (Nat.le_refl _) (Nat.le_refl _), _, hU, rfl, rfl⟩
  · rw [doInvoke_state]
    exact st2 _ hwalk
  · rcases List.mem_append.mp hy with h1 | h1
    · exact h1
    · have hb : y.base = a := by
        simp only [List.mem_cons, List.not_mem_nil, or_false] at h1
        rcases h1 with rfl | rfl | rfl | rfl | rfl <;> rfl
      rw [hb] at hlt'
      exact absurd hlt' (Nat.not_lt.mpr hnew)
end NX
def nx_at (own : String) (ic : Nat) (X : String) (ix : Nat) (rx : ByteArray) (names : List String) : List Cond := (Bundle.ownAtomsX own ic X ix rx names).filter vx_no
theorem nx_throwW {p : Program} {l : Launch} {e : Env} {R : Room} {s : State} {m : MethodId} {args : Array Value} {below : List Frame} {meth : Method} {c : Code} {H : Heap} {locs : List Loc} {cells slots : Nat} {free : Addr → Prop} {ls : Array Slot} {rest : List Value} {Qc : Array Value → State → Outcome → State → Prop} {XC : String → State → State → Prop} {cc : ByteArray} {pc : Nat} (hexec : p.tables.exec = Jvm.exec) (hb : c.code = cc) (hl : l.stackTraces = false) {own cls text : String} {names : List String} {ik is ic ix mc ms sa : Nat} {rx : ByteArray} {A : Nat → Prop}
    (x0 : decode rx 0 = .ok (.aload_n 0, 1)) (x1 : decode rx 1 = .ok (.aload_n 1, 1)) (x2 : decode rx 2 = .ok (.invokespecial ix, 3)) (x5 : decode rx 5 = .ok (.return_, 1))
    (hown : s.vm.findClass own = some m.cls) (hcls : Bundle.fit cls = true) (hnames : ∀ n ∈ names, Bundle.fit n = true)
    (hk : (Cond.classLink own ik cls).before args s = true) (hini : (Cond.initialized cls).before args s = true) (hstr : vk_R own is text sa s) (hat : ∀ w ∈ nx_at own ic cls ix rx names, w.before args s = true)
    (hgood : ∀ w ∈ Cond.classLink own ik cls :: Cond.initialized cls :: nx_at own ic cls ix rx names, vx_ot w = true)
    (hU : vx_Zq Bundle.tN "UNASSIGNED_STACK" Bundle.steD A s s.heap) (hN : vx_Zq Bundle.tN "SUPPRESSED_SENTINEL" Bundle.listD A s s.heap) (hS : va_S A s.heap H locs) (hsize : ls.size = c.maxLocals)
    (d0 : decode cc pc = .ok (.new ik, 3)) (d3 : decode cc (pc + 3) = .ok (.dup, 1)) (d4 : decode cc (pc + 4) = .ok (.ldc_w is, 3)) (d7 : decode cc (pc + 7) = .ok (.invokespecial ic, 3)) (d10 : decode cc (pc + 10) = .ok (.athrow, 1))
    (hout : ∀ x ∈ c.exceptionTable.toList, covers x (pc + 10) = false)
    (hRframes : names.length + 3 < R.frames) (hRlocals : (rest.map fun v => v.category).sum + (13 * (names.length + 1) + 43) ≤ R.locals) (hRcells : cells + 1 ≤ R.cells) (hRslots : slots + 6 ≤ R.slots) (hlocks : meth.locks = false)
    (hx : ∀ t : State, s.vm.Alike t.vm → H.size ≤ t.heap.size → (∀ q : Nat, q < H.size → t.heap[q]? = H[q]?) → XC cls s t)
    (hf : ∀ z ∈ locs, free z.base) (hc : cells + 1 ≤ mc) (hs : slots + 6 ≤ ms) :
    W p l e R s m args below meth c H locs cells slots (vx_MQ below Qc XC args s mc ms free) (F0 m pc ls rest) := by
  intro T hT X
  have htr : e.platform.stackTraces = false := (show e.platform.stackTraces = l.stackTraces by rw [X.admits.platform]).trans hl
  have Y := vx_rebase X (R' := { frames := R.frames, locals := R.locals, cells := 1, slots := 6 }) (Nat.le_refl _) (Nat.le_refl _) hRcells hRslots
  obtain ⟨s', hA⟩ : ∃ z, z = (T.setVm s.vm).setFrames (.invoking m args :: below) := ⟨_, rfl⟩
  rw [← hA] at Y
  have hvm : s'.vm = s.vm := by rw [hA]; rfl
  have hhp : s'.heap = H := by rw [hA]; exact hT
  have hW0 : s.WarmedH s'.vm := by rw [hvm]; exact State.WarmedH.refl s
  have at' : ∀ w ∈ Cond.classLink own ik cls :: Cond.initialized cls :: nx_at own ic cls ix rx names, w.before args s = true → w.before args s' = true := fun w hw h => vx_ot_at hW0 hvm.symm (hgood w hw) h
  have hU' : vx_Zq Bundle.tN "UNASSIGNED_STACK" Bundle.steD A s' s'.heap := by rw [hhp]; exact vx_Zq.moved hW0.alike (hU.kept hS.2.1)
  have hN' : vx_Zq Bundle.tN "SUPPRESSED_SENTINEL" Bundle.listD A s' s'.heap := by rw [hhp]; exact vx_Zq.moved hW0.alike (hN.kept hS.2.1)
  have h : ∀ w ∈ Bundle.ownAtomsX own ic cls ix rx names, w.before args s' = true := vx_own (fun w hw => at' w (List.mem_cons_of_mem _ (List.mem_cons_of_mem _ hw)) (hat w hw)) (vx_isRefq hU'.1) (vx_isRefq hN'.1) hU'.2.word hN'.2.word
  have hown' : s'.vm.findClass own = some m.cls := by rw [hvm]; exact hown
  obtain ⟨vm₁, cX, kX, hfX, hkX, -, -, X₁, st1⟩ := Y.newCold hexec (own := own) (C := cls) (index := ik) (n := 6) hown' (at' _ List.mem_cons_self hk) (h _ (by simp [Bundle.ownAtomsX])) (at' _ (List.mem_cons_of_mem _ List.mem_cons_self) hini)
    (g := F0 m pc ls rest) rfl (by rw [hb]; exact d0) (Nat.le_refl _) (Nat.le_refl _)
  generalize hT1 : (T.setVm vm₁).pushCell { cls := cX, slots := kX.instanceTypes.map defaultValue, vm := .none } = T1 at X₁ st1
  have hcat : (Value.ref T.heap.size).category = 1 := rfl
  have hcellA : T1.heap[T.heap.size]? = some (freshCell cX kX) := by rw [← hT1]; exact State.heap_pushCell_size _ _
  have d3' : decode c.code (pc + 3) = .ok (.dup, 1) := by rw [hb]; exact d3
  have d4' : decode c.code (pc + 4) = .ok (.ldc_w is, 3) := by rw [hb]; exact d4
  have hstr' : vk_R own is text sa s' := vk_R.warm hW0 hstr
  obtain ⟨U, hsteps, hrun, hend, hW, hsame, ce, hce, hO1, hO2⟩ := nx_ctor X₁ hexec htr (own := own) (cls := cls) (names := names) (ic := ic) x0 x1 x2 x5 hown' hcls hnames h (fun x hx => nomatch hx) hfX hkX hcellA (by rw [hhp, hT]; exact Nat.le_refl _) (msg := .ref sa) rfl
    (g := { method := m, pc := pc + 7, locals := ls, stack := .ref sa :: .ref T.heap.size :: .ref T.heap.size :: rest, locked := none }) rfl hsize rfl rfl (rest := rest) rfl
    (by rw [hb]; exact d7) (by rw [hb]; exact d10) hout hRframes (by simp only [List.map_cons, List.sum_cons, hcat]; omega) hlocks
  obtain ⟨f1, f2⟩ := vx_frame hsame
  rw [hhp] at f1 f2
  have hWs : s.WarmedH U.vm := State.WarmedH.trans hW0 hW
  have hcl : s.vm.findClass cls = some ce.cls := by
    rw [hO1, ← hvm]
    exact hfX
  have hall : s.sameButNew ({ U with vm := s.vm } : State) locs mc ms := by
    subst hA
    obtain ⟨e1, e2⟩ := hsame
    rw [State.setFrames_setFrames] at e1
    have h2 : (T.setVm s.vm).sameButNew ({ U with vm := s.vm } : State) [] (0 + 1) (0 + 6) := ⟨e1, e2⟩
    have h3 := X.same.trans h2
    rw [List.append_nil] at h3
    exact h3.mono hc hs
  refine ⟨U, ?_, .threw T.heap.size, hrun, hend, Or.inr ⟨T.heap.size, rfl, cls, ce, locs, hx U hWs.alike f1 (fun q hq => f2 q hq (fun z hz => nomatch hz)), hce, hO2, hcl, hWs, hall, hf⟩⟩
  refine st1 _ ?_
  show Steps p.tables e below (T1.setTop { method := m, pc := pc + 3, locals := ls, stack := .ref T.heap.size :: rest, locked := none }) _
  jvm_step X₁.here [X₁.here.top, hexec, d3', Value.category]
  exact X₁.ldcStringW hexec (own := own) (text := text) (index := is) (a := sa) hown' hstr'.1 hstr'.2
    (g := { method := m, pc := pc + 4, locals := ls, stack := .ref T.heap.size :: .ref T.heap.size :: rest, locked := none }) rfl d4' _ hsteps
theorem at_NSE {A : Array Value} {s : State} (hg : EXg s) (hn : EXn s) : ∀ w ∈ nx_at RX9 271 "java/util/NoSuchElementException" 13 nb13 nm2, w.before A s = true := by
  refine vx_hat (B := [.declares ⟨"java/lang/RuntimeException", "<init>", "(Ljava/lang/String;)V"⟩, .declares ⟨"java/lang/Exception", "<init>", "(Ljava/lang/String;)V"⟩, .declares ⟨"java/lang/Throwable", "<init>", "(Ljava/lang/String;)V"⟩, .castable "java/util/NoSuchElementException" "java/util/NoSuchElementException"]) ?_ ?_ ?_
  · intro w hw
    exact hg w (mem_r (big := lw_tbl) _ [53, 349, 358, 363, 366, 368, 350, 351, 66, 67, 352, 357, 364, 384, 339, 385, 341, 386, 343, 353, 355, 345, 380, 381, 383, 345, 795, 796, 797, 374, 374, 375, 376, 377, 377, 378, 379, 380, 794, 785, 787, 362, 788, 789, 790, 791, 348, 347, 792] (by decide +kernel) w hw) (List.mem_filter.mp hw).2 A
  · rw [show (nx_at RX9 271 "java/util/NoSuchElementException" 13 nb13 nm2).filter (fun w => !goodWord w) = [.declares ⟨"java/lang/RuntimeException", "<init>", "(Ljava/lang/String;)V"⟩, .declares ⟨"java/lang/Exception", "<init>", "(Ljava/lang/String;)V"⟩, .declares ⟨"java/lang/Throwable", "<init>", "(Ljava/lang/String;)V"⟩, .castable "java/util/NoSuchElementException" "java/util/NoSuchElementException"] by decide +kernel]
    exact fun w hw => hw
  · refine vx_c (va_tabs rfl rfl (hn.2.2.2.2.1 _ (List.mem_of_getElem? (i := 0) rfl))) (vx_c (va_tabs rfl rfl (hn.2.2.2.2.1 _ (List.mem_of_getElem? (i := 1) rfl))) (vx_c (va_tabs rfl rfl (hn.2.2.2.2.1 _ (List.mem_of_getElem? (i := 2) rfl))) (vx_c (va_tabs rfl rfl (hn.2.2.1 ("java/util/NoSuchElementException", "java/util/NoSuchElementException") (List.mem_of_getElem? (i := 3) rfl))) vx_n)))
theorem wn_NSE {U : State} (h : EXg U) (A : Array Value) : (Cond.initialized "java/util/NoSuchElementException").before A U = true := h _ (List.mem_of_getElem? (i := 59) (by decide +kernel)) (by decide +kernel) A
theorem go_NSE : ∀ w ∈ Cond.classLink RX9 267 "java/util/NoSuchElementException" :: Cond.initialized "java/util/NoSuchElementException" :: nx_at RX9 271 "java/util/NoSuchElementException" 13 nb13 nm2, vx_ot w = true := List.all_eq_true.mp (by decide +kernel)
theorem mx_thW_NSE {p : Program} {l : Launch} {e : Env} {R : Room} {s : State} {m : MethodId} {args : Array Value} {below : List Frame} {meth : Method} {c : Code} {H : Heap} {locs : List Loc} {cc : ByteArray} {pc nL is : Nat} {tx : String} {ls : Array Slot} {rest : List Value} {Γ : Gm} {b M : Nat} {mem : Nat → va_E}
    (hx : p.tables.exec = Jvm.exec) (hb : c.code = cc) (hlst : l.stackTraces = false) (hown : s.vm.findClass RX9 = some m.cls) (hE : EX Γ b s) (hh : GH Γ b M mem s H locs) (hnt : ∀ x ∈ c.exceptionTable.toList, False) (hml : c.maxLocals = nL) (hl : ls.size = nL) (hstr : ∃ a : Nat, vk_R RX9 is tx a s)
    (d0 : decode cc pc = .ok (.new 267, 3)) (d3 : decode cc (pc + 3) = .ok (.dup, 1)) (d4 : decode cc (pc + 4) = .ok (.ldc_w is, 3)) (d6 : decode cc (pc + 7) = .ok (.invokespecial 271, 3)) (d9 : decode cc (pc + 10) = .ok (.athrow, 1))
    (hf : 6 ≤ R.frames) (hlo : (rest.map fun v => v.category).sum + 82 ≤ R.locals) (hc : 1 ≤ R.cells) (hs : 6 ≤ R.slots) (hlocks : meth.locks = false) :
    W p l e R s m args below meth c H locs 0 0 (vx_MQ below QF (XE Γ b M mem "java/util/NoSuchElementException") args s 1 6 (fun q => b ≤ q)) (F0 m pc ls rest) := by
  obtain ⟨sa, hsa⟩ := hstr
  exact nx_throwW (A := fun q => b ≤ q) (names := nm2) hx hb hlst nb13_0 nb13_1 nb13_2 nb13_5 hown (by decide) (by decide) (wc_X9_267 hE.2.1 args) (wn_NSE hE.2.1 args) hsa (at_NSE hE.2.1 hE.2.2.1) go_NSE hE.2.2.2.1.1 hE.2.2.2.1.2 hh.2 (hl.trans hml.symm) d0 d3 d4 d6 d9 (fun x hx => (hnt x hx).elim) (by show 2 + 3 < _; omega) (by show _ + (13 * (2 + 1) + 43) ≤ _; omega) (by omega) (by omega) hlocks (fun t _ h1 h2 => hh.ext h1 h2) hh.2.2.2 (by omega) (by omega)

set_option maxHeartbeats 4000000 in
set_option maxRecDepth 100000 in
/-- yX9_madeList throws java/util/NoSuchElementException -/
theorem x_X9_madeList_2 (l : Launch) (hlst : l.stackTraces = false) (Γ : Gm) (b M : Nat) (mem : Nat → va_E) {v : Nat} {lst : Nat → Bool × Nat × Nat × Nat} (hM : 138 ≤ M) (fH : mem 0 = .inr (8, [.ref (b + 1), .ref (b + 72), .ref (b + 75), .ref (b + 78), .ref (b + 80), .ref (b + 91), .ref (b + 93), .ref (b + 96), .ref (b + 109)])) (fLo : mem 96 = aR Γ 5 3 (fun i => some (b + (97 + 4 * i)))) (fls : ∀ z9, z9 < 3 → mem (97 + 4 * z9) = .inr (2, [.ref (b + (97 + 4 * z9 + 1)), .int (bI ((lst z9).1)), .int (nI ((lst z9).2.1)), .int (nI ((lst z9).2.2.1)), .int (nI ((lst z9).2.2.2))])) (hv : v < 3) (hmd : (lst v).1 = false) : Cx l yX9_madeList (.code yX9_madeList cX9_madeList 2 (some (.object "HybridSearch$Listing"))) ({ frames := 6, cells := 1, slots := 6, locals := 90 } : Room) Γ b M [.ref (b + 0), .int (nI v)] mem "java/util/NoSuchElementException" := by
  refine mx_enter (cc := cX9_madeList) (by decide) (Nat.le_of_ble_eq_true rfl) ?_
  intro p e s m args below meth c ls hx hb hml hown hr hlocks hname hnt hE hh hl
  have hl : lv_has ls 2 [(0, .ref (b + 0)), (1, .int (nI v))] := hl
  refine lv_iload_n hx hb dX9_madeList_0 rfl (lv_at hl 1 rfl) ?_
  refine mm_S0r (As := [.int (nI v)]) (rest := []) hx hb hml hown hE hl.1 hh (kc_X9_172 hE.2.1 ⟨Nat.le_of_ble_eq_true rfl, Nat.le_of_ble_eq_true rfl⟩) (c_X9_isView l Γ b M mem (t := (nI v))) rfl rfl (Nat.le_of_ble_eq_true rfl) dX9_madeList_1 rfl rfl (fun H locs hh => ?_)
  refine nn_bne (tgt := 18) hx hb dX9_madeList_4 (by decide) (fun h1 => ?_) (fun h1 => ?_)
  ·
    refine lv_aload_n hx hb dX9_madeList_18 rfl (lv_at hl 0 rfl) ?_
    refine gf_X9_lists hx hb hE hown hh (by omega) fH rfl dX9_madeList_19 ?_
    refine lv_iload_n hx hb dX9_madeList_22 rfl (lv_at hl 1 rfl) ?_
    refine mm_aald (q := b + (97 + 4 * v)) hx hb hE hh 5 (by omega) fLo rfl rfl (by omega) (by decide) (rfl) dX9_madeList_23 ?_
    refine mm_V0r (As := []) (rest := []) hx hb hml hown hE hl.1 hh (kc_X9_262 hE.2.1 ⟨Nat.le_of_ble_eq_true rfl, Nat.le_of_ble_eq_true rfl⟩) (c_X2_isMade l Γ b M mem (a := 97 + 4 * v) (sd := (lst v).2.1) (sk := (lst v).2.2.1) (ps := (lst v).2.2.2) (made := (lst v).1) (by omega) (fls v (by omega))) rfl (by omega) (fls v (by omega)) rfl rfl (Nat.le_of_ble_eq_true rfl) dX9_madeList_24 rfl rfl (fun H locs hh => ?_)
    refine nn_bne (tgt := 41) hx hb dX9_madeList_27 (by decide) (fun h2 => ?_) (fun h2 => ?_)
    ·
      exact (no_tf h2 hmd).elim
    ·
      exact mx_thW_NSE hx hb hlst hown hE hh hnt hml hl.1 (hE.2.2.1.2.1 (RX9, 269, "the view has no list") (List.mem_of_getElem? (i := 18) rfl)) dX9_madeList_30 dX9_madeList_33 dX9_madeList_34 dX9_madeList_37 dX9_madeList_40 (Nat.le_of_ble_eq_true rfl) (Nat.le_of_ble_eq_true rfl) (Nat.le_of_ble_eq_true rfl) (Nat.le_of_ble_eq_true rfl) hlocks
  ·
    exact (no_tf (inR_y hv (by decide)) h1).elim
set_option maxHeartbeats 4000000 in
set_option maxRecDepth 100000 in
/-- yX9_listWithPlace throws java/lang/IllegalArgumentException -/
theorem x_X9_listWithPlace_1 (l : Launch) (hlst : l.stackTraces = false) (Γ : Gm) (b M : Nat) (mem : Nat → va_E) {v i : Int32} (hM : 138 ≤ M) (fH : mem 0 = .inr (8, [.ref (b + 1), .ref (b + 72), .ref (b + 75), .ref (b + 78), .ref (b + 80), .ref (b + 91), .ref (b + 93), .ref (b + 96), .ref (b + 109)])) (hvn : inR v 3 = false) : Cx l yX9_listWithPlace (.code yX9_listWithPlace cX9_listWithPlace 4 (some (.object "HybridSearch$Listing"))) ({ frames := 7, cells := 1, slots := 6, locals := 111 } : Room) Γ b M [.ref (b + 0), .int v, .int i] mem "java/lang/IllegalArgumentException" := by
  refine mx_enter (cc := cX9_listWithPlace) (by decide) (Nat.le_of_ble_eq_true rfl) ?_
  intro p e s m args below meth c ls hx hb hml hown hr hlocks hname hnt hE hh hl
  have hl : lv_has ls 4 [(0, .ref (b + 0)), (1, .int v), (2, .int i)] := hl
  refine lv_aload_n hx hb dX9_listWithPlace_0 rfl (lv_at hl 0 rfl) ?_
  refine lv_iload_n hx hb dX9_listWithPlace_1 rfl (lv_at hl 1 rfl) ?_
  exact mx_V (As := [.int v]) (rest := []) hx hb hml hown hE hl.1 hh (kc_X9_213 hE.2.1 ⟨Nat.le_of_ble_eq_true rfl, Nat.le_of_ble_eq_true rfl⟩) (x_X9_madeList_1 l hlst Γ b M mem (v := v) (by omega) (by omega)) rfl (by omega) fH rfl rfl (Nat.le_of_ble_eq_true rfl) dX9_listWithPlace_2 rfl rfl hnt hlocks (Nat.le_of_ble_eq_true rfl) (Nat.le_of_ble_eq_true rfl)
set_option maxHeartbeats 4000000 in
set_option maxRecDepth 100000 in
/-- yX9_listWithPlace throws java/util/NoSuchElementException -/
theorem x_X9_listWithPlace_2 (l : Launch) (hlst : l.stackTraces = false) (Γ : Gm) (b M : Nat) (mem : Nat → va_E) {v : Nat} {i : Int32} {lst : Nat → Bool × Nat × Nat × Nat} (hM : 138 ≤ M) (fH : mem 0 = .inr (8, [.ref (b + 1), .ref (b + 72), .ref (b + 75), .ref (b + 78), .ref (b + 80), .ref (b + 91), .ref (b + 93), .ref (b + 96), .ref (b + 109)])) (fLo : mem 96 = aR Γ 5 3 (fun i => some (b + (97 + 4 * i)))) (fls : ∀ z9, z9 < 3 → mem (97 + 4 * z9) = .inr (2, [.ref (b + (97 + 4 * z9 + 1)), .int (bI ((lst z9).1)), .int (nI ((lst z9).2.1)), .int (nI ((lst z9).2.2.1)), .int (nI ((lst z9).2.2.2))])) (hv : v < 3) (hmd : (lst v).1 = false) : Cx l yX9_listWithPlace (.code yX9_listWithPlace cX9_listWithPlace 4 (some (.object "HybridSearch$Listing"))) ({ frames := 7, cells := 1, slots := 6, locals := 111 } : Room) Γ b M [.ref (b + 0), .int (nI v), .int i] mem "java/util/NoSuchElementException" := by
  refine mx_enter (cc := cX9_listWithPlace) (by decide) (Nat.le_of_ble_eq_true rfl) ?_
  intro p e s m args below meth c ls hx hb hml hown hr hlocks hname hnt hE hh hl
  have hl : lv_has ls 4 [(0, .ref (b + 0)), (1, .int (nI v)), (2, .int i)] := hl
  refine lv_aload_n hx hb dX9_listWithPlace_0 rfl (lv_at hl 0 rfl) ?_
  refine lv_iload_n hx hb dX9_listWithPlace_1 rfl (lv_at hl 1 rfl) ?_
  exact mx_V (As := [.int (nI v)]) (rest := []) hx hb hml hown hE hl.1 hh (kc_X9_213 hE.2.1 ⟨Nat.le_of_ble_eq_true rfl, Nat.le_of_ble_eq_true rfl⟩) (x_X9_madeList_2 l hlst Γ b M mem (v := v) (lst := lst) (by omega) fH fLo fls (by omega) (by omega)) rfl (by omega) fH rfl rfl (Nat.le_of_ble_eq_true rfl) dX9_listWithPlace_2 rfl rfl hnt hlocks (Nat.le_of_ble_eq_true rfl) (Nat.le_of_ble_eq_true rfl)
set_option maxHeartbeats 4000000 in
set_option maxRecDepth 100000 in
/-- yX9_listWithPlace throws java/lang/IndexOutOfBoundsException -/
theorem x_X9_listWithPlace_3 (l : Launch) (hlst : l.stackTraces = false) (Γ : Gm) (b M : Nat) (mem : Nat → va_E) {v : Nat} {i : Int32} {lst : Nat → Bool × Nat × Nat × Nat} {lrk : Nat → Nat × Nat}  (hM : 138 ≤ M) (fH : mem 0 = .inr (8, [.ref (b + 1), .ref (b + 72), .ref (b + 75), .ref (b + 78), .ref (b + 80), .ref (b + 91), .ref (b + 93), .ref (b + 96), .ref (b + 109)])) (fLo : mem 96 = aR Γ 5 3 (fun i => some (b + (97 + 4 * i)))) (fls : ∀ z9, z9 < 3 → mem (97 + 4 * z9) = .inr (2, [.ref (b + (97 + 4 * z9 + 1)), .int (bI ((lst z9).1)), .int (nI ((lst z9).2.1)), .int (nI ((lst z9).2.2.1)), .int (nI ((lst z9).2.2.2))])) (flr : ∀ z9, z9 < 3 → mem (97 + 4 * z9 + 1) = .inr (4, [.ref (b + (97 + 4 * z9 + 2)), .ref (b + (97 + 4 * z9 + 3)), .int (nI ((lrk z9).1)), .int (nI ((lrk z9).2))])) (hv : v < 3) (hmd : (lst v).1 = true) (hin : inR i (lrk v).2 = false) : Cx l yX9_listWithPlace (.code yX9_listWithPlace cX9_listWithPlace 4 (some (.object "HybridSearch$Listing"))) ({ frames := 6, cells := 1, slots := 6, locals := 90 } : Room) Γ b M [.ref (b + 0), .int (nI v), .int i] mem "java/lang/IndexOutOfBoundsException" := by
  refine mx_enter (cc := cX9_listWithPlace) (by decide) (Nat.le_of_ble_eq_true rfl) ?_
  intro p e s m args below meth c ls hx hb hml hown hr hlocks hname hnt hE hh hl
  have hl : lv_has ls 4 [(0, .ref (b + 0)), (1, .int (nI v)), (2, .int i)] := hl
  refine lv_aload_n hx hb dX9_listWithPlace_0 rfl (lv_at hl 0 rfl) ?_
  refine lv_iload_n hx hb dX9_listWithPlace_1 rfl (lv_at hl 1 rfl) ?_
  refine mm_V0r (As := [.int (nI v)]) (rest := []) hx hb hml hown hE hl.1 hh (kc_X9_213 hE.2.1 ⟨Nat.le_of_ble_eq_true rfl, Nat.le_of_ble_eq_true rfl⟩) (c_X9_madeList l Γ b M mem (v := v) (lst := lst) (by omega) fH fLo fls (by omega) (by omega)) rfl (by omega) fH rfl rfl (Nat.le_of_ble_eq_true rfl) dX9_listWithPlace_2 rfl rfl (fun H locs hh => ?_)
  refine lv_astore_n (lv' := [(3, .ref (b + (97 + 4 * v))), (0, .ref (b + 0)), (1, .int (nI v)), (2, .int i)]) hx hb dX9_listWithPlace_5 rfl hl (by decide) rfl (fun ls hl => ?_)
  refine lv_aload_n hx hb dX9_listWithPlace_6 rfl (lv_at hl 0 rfl) ?_
  refine mm_V0r (As := []) (rest := []) hx hb hml hown hE hl.1 hh (kc_X9_199 hE.2.1 ⟨Nat.le_of_ble_eq_true rfl, Nat.le_of_ble_eq_true rfl⟩) (c_X2_ranking l Γ b M mem (a := 97 + 4 * v) (sd := (lst v).2.1) (sk := (lst v).2.2.1) (ps := (lst v).2.2.2) (made := (lst v).1) (by omega) (fls v (by omega))) rfl (by omega) (fls v (by omega)) rfl rfl (Nat.le_of_ble_eq_true rfl) dX9_listWithPlace_7 rfl rfl (fun H locs hh => ?_)
  refine lv_iload_n hx hb dX9_listWithPlace_10 rfl (lv_at hl 3 rfl) ?_
  refine mm_V0r (As := [.int i]) (rest := []) hx hb hml hown hE hl.1 hh (kc_X9_238 hE.2.1 ⟨Nat.le_of_ble_eq_true rfl, Nat.le_of_ble_eq_true rfl⟩) (c_X4_holdsPlace l Γ b M mem (a := 97 + 4 * v + 1) (lim := (lrk v).1) (sz := (lrk v).2) (i := i) (by omega) (flr v (by omega))) rfl (by omega) (flr v (by omega)) rfl rfl (Nat.le_of_ble_eq_true rfl) dX9_listWithPlace_11 rfl rfl (fun H locs hh => ?_)
  refine nn_bne (tgt := 27) hx hb dX9_listWithPlace_14 (by decide) (fun h1 => ?_) (fun h1 => ?_)
  ·
    exact (no_tf h1 hin).elim
  ·
    exact mx_thS_IOB hx hb hlst hown hE hh hnt hml hl.1 (hE.2.2.1.2.1 (RX9, 241, "no such place") (List.mem_of_getElem? (i := 19) rfl)) dX9_listWithPlace_17 dX9_listWithPlace_20 dX9_listWithPlace_21 dX9_listWithPlace_23 dX9_listWithPlace_26 (Nat.le_of_ble_eq_true rfl) (Nat.le_of_ble_eq_true rfl) (Nat.le_of_ble_eq_true rfl) (Nat.le_of_ble_eq_true rfl) hlocks
set_option maxHeartbeats 4000000 in
set_option maxRecDepth 100000 in
/-- yX9_hit throws java/lang/IllegalArgumentException -/
theorem x_X9_hit_1 (l : Launch) (hlst : l.stackTraces = false) (Γ : Gm) (b M : Nat) (mem : Nat → va_E) {v i : Int32} (hM : 138 ≤ M) (fH : mem 0 = .inr (8, [.ref (b + 1), .ref (b + 72), .ref (b + 75), .ref (b + 78), .ref (b + 80), .ref (b + 91), .ref (b + 93), .ref (b + 96), .ref (b + 109)])) (hvn : inR v 3 = false) : Cx l yX9_hit (.code yX9_hit cX9_hit 3 (some .int)) ({ frames := 8, cells := 1, slots := 6, locals := 134 } : Room) Γ b M [.ref (b + 0), .int v, .int i] mem "java/lang/IllegalArgumentException" := by
  refine mx_enter (cc := cX9_hit) (by decide) (Nat.le_of_ble_eq_true rfl) ?_
  intro p e s m args below meth c ls hx hb hml hown hr hlocks hname hnt hE hh hl
  have hl : lv_has ls 3 [(0, .ref (b + 0)), (1, .int v), (2, .int i)] := hl
  refine lv_aload_n hx hb dX9_hit_0 rfl (lv_at hl 0 rfl) ?_
  refine lv_iload_n hx hb dX9_hit_1 rfl (lv_at hl 1 rfl) ?_
  refine lv_iload_n hx hb dX9_hit_2 rfl (lv_at hl 2 rfl) ?_
  exact mx_V (As := [.int v, .int i]) (rest := []) hx hb hml hown hE hl.1 hh (kc_X9_195 hE.2.1 ⟨Nat.le_of_ble_eq_true rfl, Nat.le_of_ble_eq_true rfl⟩) (x_X9_listWithPlace_1 l hlst Γ b M mem (v := v) (i := i) (by omega) fH (by omega)) rfl (by omega) fH rfl rfl (Nat.le_of_ble_eq_true rfl) dX9_hit_3 rfl rfl hnt hlocks (Nat.le_of_ble_eq_true rfl) (Nat.le_of_ble_eq_true rfl)
set_option maxHeartbeats 4000000 in
set_option maxRecDepth 100000 in
/-- yX9_hit throws java/util/NoSuchElementException -/
theorem x_X9_hit_2 (l : Launch) (hlst : l.stackTraces = false) (Γ : Gm) (b M : Nat) (mem : Nat → va_E) {v : Nat} {i : Int32} {lst : Nat → Bool × Nat × Nat × Nat} (hM : 138 ≤ M) (fH : mem 0 = .inr (8, [.ref (b + 1), .ref (b + 72), .ref (b + 75), .ref (b + 78), .ref (b + 80), .ref (b + 91), .ref (b + 93), .ref (b + 96), .ref (b + 109)])) (fLo : mem 96 = aR Γ 5 3 (fun i => some (b + (97 + 4 * i)))) (fls : ∀ z9, z9 < 3 → mem (97 + 4 * z9) = .inr (2, [.ref (b + (97 + 4 * z9 + 1)), .int (bI ((lst z9).1)), .int (nI ((lst z9).2.1)), .int (nI ((lst z9).2.2.1)), .int (nI ((lst z9).2.2.2))])) (hv : v < 3) (hmd : (lst v).1 = false) : Cx l yX9_hit (.code yX9_hit cX9_hit 3 (some .int)) ({ frames := 8, cells := 1, slots := 6, locals := 134 } : Room) Γ b M [.ref (b + 0), .int (nI v), .int i] mem "java/util/NoSuchElementException" := by
  refine mx_enter (cc := cX9_hit) (by decide) (Nat.le_of_ble_eq_true rfl) ?_
  intro p e s m args below meth c ls hx hb hml hown hr hlocks hname hnt hE hh hl
  have hl : lv_has ls 3 [(0, .ref (b + 0)), (1, .int (nI v)), (2, .int i)] := hl
  refine lv_aload_n hx hb dX9_hit_0 rfl (lv_at hl 0 rfl) ?_
  refine lv_iload_n hx hb dX9_hit_1 rfl (lv_at hl 1 rfl) ?_
  refine lv_iload_n hx hb dX9_hit_2 rfl (lv_at hl 2 rfl) ?_
  exact mx_V (As := [.int (nI v), .int i]) (rest := []) hx hb hml hown hE hl.1 hh (kc_X9_195 hE.2.1 ⟨Nat.le_of_ble_eq_true rfl, Nat.le_of_ble_eq_true rfl⟩) (x_X9_listWithPlace_2 l hlst Γ b M mem (v := v) (i := i) (lst := lst) (by omega) fH fLo fls (by omega) (by omega)) rfl (by omega) fH rfl rfl (Nat.le_of_ble_eq_true rfl) dX9_hit_3 rfl rfl hnt hlocks (Nat.le_of_ble_eq_true rfl) (Nat.le_of_ble_eq_true rfl)
set_option maxHeartbeats 4000000 in
set_option maxRecDepth 100000 in
/-- yX9_hit throws java/lang/IndexOutOfBoundsException -/
theorem x_X9_hit_3 (l : Launch) (hlst : l.stackTraces = false) (Γ : Gm) (b M : Nat) (mem : Nat → va_E) {v : Nat} {i : Int32} {lst : Nat → Bool × Nat × Nat × Nat} {lrk : Nat → Nat × Nat}  (hM : 138 ≤ M) (fH : mem 0 = .inr (8, [.ref (b + 1), .ref (b + 72), .ref (b + 75), .ref (b + 78), .ref (b + 80), .ref (b + 91), .ref (b + 93), .ref (b + 96), .ref (b + 109)])) (fLo : mem 96 = aR Γ 5 3 (fun i => some (b + (97 + 4 * i)))) (fls : ∀ z9, z9 < 3 → mem (97 + 4 * z9) = .inr (2, [.ref (b + (97 + 4 * z9 + 1)), .int (bI ((lst z9).1)), .int (nI ((lst z9).2.1)), .int (nI ((lst z9).2.2.1)), .int (nI ((lst z9).2.2.2))])) (flr : ∀ z9, z9 < 3 → mem (97 + 4 * z9 + 1) = .inr (4, [.ref (b + (97 + 4 * z9 + 2)), .ref (b + (97 + 4 * z9 + 3)), .int (nI ((lrk z9).1)), .int (nI ((lrk z9).2))])) (hv : v < 3) (hmd : (lst v).1 = true) (hin : inR i (lrk v).2 = false) : Cx l yX9_hit (.code yX9_hit cX9_hit 3 (some .int)) ({ frames := 7, cells := 1, slots := 6, locals := 113 } : Room) Γ b M [.ref (b + 0), .int (nI v), .int i] mem "java/lang/IndexOutOfBoundsException" := by
  refine mx_enter (cc := cX9_hit) (by decide) (Nat.le_of_ble_eq_true rfl) ?_
  intro p e s m args below meth c ls hx hb hml hown hr hlocks hname hnt hE hh hl
  have hl : lv_has ls 3 [(0, .ref (b + 0)), (1, .int (nI v)), (2, .int i)] := hl
  refine lv_aload_n hx hb dX9_hit_0 rfl (lv_at hl 0 rfl) ?_
  refine lv_iload_n hx hb dX9_hit_1 rfl (lv_at hl 1 rfl) ?_
  refine lv_iload_n hx hb dX9_hit_2 rfl (lv_at hl 2 rfl) ?_
  exact mx_V (As := [.int (nI v), .int i]) (rest := []) hx hb hml hown hE hl.1 hh (kc_X9_195 hE.2.1 ⟨Nat.le_of_ble_eq_true rfl, Nat.le_of_ble_eq_true rfl⟩) (x_X9_listWithPlace_3 l hlst Γ b M mem (v := v) (i := i) (lst := lst) (lrk := lrk) (by omega) fH fLo fls flr (by omega) (by omega) (by omega)) rfl (by omega) fH rfl rfl (Nat.le_of_ble_eq_true rfl) dX9_hit_3 rfl rfl hnt hlocks (Nat.le_of_ble_eq_true rfl) (Nat.le_of_ble_eq_true rfl)
set_option maxHeartbeats 4000000 in
set_option maxRecDepth 100000 in
/-- yX9_score throws java/lang/IllegalArgumentException -/
theorem x_X9_score_1 (l : Launch) (hlst : l.stackTraces = false) (Γ : Gm) (b M : Nat) (mem : Nat → va_E) {v i : Int32} (hM : 138 ≤ M) (fH : mem 0 = .inr (8, [.ref (b + 1), .ref (b + 72), .ref (b + 75), .ref (b + 78), .ref (b + 80), .ref (b + 91), .ref (b + 93), .ref (b + 96), .ref (b + 109)])) (hvn : inR v 3 = false) : Cx l yX9_score (.code yX9_score cX9_score 3 (some .double)) ({ frames := 8, cells := 1, slots := 6, locals := 134 } : Room) Γ b M [.ref (b + 0), .int v, .int i] mem "java/lang/IllegalArgumentException" := by
  refine mx_enter (cc := cX9_score) (by decide) (Nat.le_of_ble_eq_true rfl) ?_
  intro p e s m args below meth c ls hx hb hml hown hr hlocks hname hnt hE hh hl
  have hl : lv_has ls 3 [(0, .ref (b + 0)), (1, .int v), (2, .int i)] := hl
  refine lv_aload_n hx hb dX9_score_0 rfl (lv_at hl 0 rfl) ?_
  refine lv_iload_n hx hb dX9_score_1 rfl (lv_at hl 1 rfl) ?_
  refine lv_iload_n hx hb dX9_score_2 rfl (lv_at hl 2 rfl) ?_
  exact mx_V (As := [.int v, .int i]) (rest := []) hx hb hml hown hE hl.1 hh (kc_X9_195 hE.2.1 ⟨Nat.le_of_ble_eq_true rfl, Nat.le_of_ble_eq_true rfl⟩) (x_X9_listWithPlace_1 l hlst Γ b M mem (v := v) (i := i) (by omega) fH (by omega)) rfl (by omega) fH rfl rfl (Nat.le_of_ble_eq_true rfl) dX9_score_3 rfl rfl hnt hlocks (Nat.le_of_ble_eq_true rfl) (Nat.le_of_ble_eq_true rfl)
set_option maxHeartbeats 4000000 in
set_option maxRecDepth 100000 in
/-- yX9_score throws java/util/NoSuchElementException -/
theorem x_X9_score_2 (l : Launch) (hlst : l.stackTraces = false) (Γ : Gm) (b M : Nat) (mem : Nat → va_E) {v : Nat} {i : Int32} {lst : Nat → Bool × Nat × Nat × Nat} (hM : 138 ≤ M) (fH : mem 0 = .inr (8, [.ref (b + 1), .ref (b + 72), .ref (b + 75), .ref (b + 78), .ref (b + 80), .ref (b + 91), .ref (b + 93), .ref (b + 96), .ref (b + 109)])) (fLo : mem 96 = aR Γ 5 3 (fun i => some (b + (97 + 4 * i)))) (fls : ∀ z9, z9 < 3 → mem (97 + 4 * z9) = .inr (2, [.ref (b + (97 + 4 * z9 + 1)), .int (bI ((lst z9).1)), .int (nI ((lst z9).2.1)), .int (nI ((lst z9).2.2.1)), .int (nI ((lst z9).2.2.2))])) (hv : v < 3) (hmd : (lst v).1 = false) : Cx l yX9_score (.code yX9_score cX9_score 3 (some .double)) ({ frames := 8, cells := 1, slots := 6, locals := 134 } : Room) Γ b M [.ref (b + 0), .int (nI v), .int i] mem "java/util/NoSuchElementException" := by
  refine mx_enter (cc := cX9_score) (by decide) (Nat.le_of_ble_eq_true rfl) ?_
  intro p e s m args below meth c ls hx hb hml hown hr hlocks hname hnt hE hh hl
  have hl : lv_has ls 3 [(0, .ref (b + 0)), (1, .int (nI v)), (2, .int i)] := hl
  refine lv_aload_n hx hb dX9_score_0 rfl (lv_at hl 0 rfl) ?_
  refine lv_iload_n hx hb dX9_score_1 rfl (lv_at hl 1 rfl) ?_
  refine lv_iload_n hx hb dX9_score_2 rfl (lv_at hl 2 rfl) ?_
  exact mx_V (As := [.int (nI v), .int i]) (rest := []) hx hb hml hown hE hl.1 hh (kc_X9_195 hE.2.1 ⟨Nat.le_of_ble_eq_true rfl, Nat.le_of_ble_eq_true rfl⟩) (x_X9_listWithPlace_2 l hlst Γ b M mem (v := v) (i := i) (lst := lst) (by omega) fH fLo fls (by omega) (by omega)) rfl (by omega) fH rfl rfl (Nat.le_of_ble_eq_true rfl) dX9_score_3 rfl rfl hnt hlocks (Nat.le_of_ble_eq_true rfl) (Nat.le_of_ble_eq_true rfl)
set_option maxHeartbeats 4000000 in
set_option maxRecDepth 100000 in
/-- yX9_score throws java/lang/IndexOutOfBoundsException -/
theorem x_X9_score_3 (l : Launch) (hlst : l.stackTraces = false) (Γ : Gm) (b M : Nat) (mem : Nat → va_E) {v : Nat} {i : Int32} {lst : Nat → Bool × Nat × Nat × Nat} {lrk : Nat → Nat × Nat}  (hM : 138 ≤ M) (fH : mem 0 = .inr (8, [.ref (b + 1), .ref (b + 72), .ref (b + 75), .ref (b + 78), .ref (b + 80), .ref (b + 91), .ref (b + 93), .ref (b + 96), .ref (b + 109)])) (fLo : mem 96 = aR Γ 5 3 (fun i => some (b + (97 + 4 * i)))) (fls : ∀ z9, z9 < 3 → mem (97 + 4 * z9) = .inr (2, [.ref (b + (97 + 4 * z9 + 1)), .int (bI ((lst z9).1)), .int (nI ((lst z9).2.1)), .int (nI ((lst z9).2.2.1)), .int (nI ((lst z9).2.2.2))])) (flr : ∀ z9, z9 < 3 → mem (97 + 4 * z9 + 1) = .inr (4, [.ref (b + (97 + 4 * z9 + 2)), .ref (b + (97 + 4 * z9 + 3)), .int (nI ((lrk z9).1)), .int (nI ((lrk z9).2))])) (hv : v < 3) (hmd : (lst v).1 = true) (hin : inR i (lrk v).2 = false) : Cx l yX9_score (.code yX9_score cX9_score 3 (some .double)) ({ frames := 7, cells := 1, slots := 6, locals := 113 } : Room) Γ b M [.ref (b + 0), .int (nI v), .int i] mem "java/lang/IndexOutOfBoundsException" := by
  refine mx_enter (cc := cX9_score) (by decide) (Nat.le_of_ble_eq_true rfl) ?_
  intro p e s m args below meth c ls hx hb hml hown hr hlocks hname hnt hE hh hl
  have hl : lv_has ls 3 [(0, .ref (b + 0)), (1, .int (nI v)), (2, .int i)] := hl
  refine lv_aload_n hx hb dX9_score_0 rfl (lv_at hl 0 rfl) ?_
  refine lv_iload_n hx hb dX9_score_1 rfl (lv_at hl 1 rfl) ?_
  refine lv_iload_n hx hb dX9_score_2 rfl (lv_at hl 2 rfl) ?_
  exact mx_V (As := [.int (nI v), .int i]) (rest := []) hx hb hml hown hE hl.1 hh (kc_X9_195 hE.2.1 ⟨Nat.le_of_ble_eq_true rfl, Nat.le_of_ble_eq_true rfl⟩) (x_X9_listWithPlace_3 l hlst Γ b M mem (v := v) (i := i) (lst := lst) (lrk := lrk) (by omega) fH fLo fls flr (by omega) (by omega) (by omega)) rfl (by omega) fH rfl rfl (Nat.le_of_ble_eq_true rfl) dX9_score_3 rfl rfl hnt hlocks (Nat.le_of_ble_eq_true rfl) (Nat.le_of_ble_eq_true rfl)
set_option maxHeartbeats 4000000 in
set_option maxRecDepth 100000 in
/-- yX9_work throws java/lang/IllegalArgumentException -/
theorem x_X9_work_2 (l : Launch) (hlst : l.stackTraces = false) (Γ : Gm) (b M : Nat) (mem : Nat → va_E) {v w : Int32} (hM : 138 ≤ M) (fH : mem 0 = .inr (8, [.ref (b + 1), .ref (b + 72), .ref (b + 75), .ref (b + 78), .ref (b + 80), .ref (b + 91), .ref (b + 93), .ref (b + 96), .ref (b + 109)])) (hvn : inR v 3 = false) (hw : w = 0 ∨ w = nI 1 ∨ w = nI 2) : Cx l yX9_work (.code yX9_work cX9_work 4 (some .int)) ({ frames := 7, cells := 1, slots := 6, locals := 111 } : Room) Γ b M [.ref (b + 0), .int v, .int w] mem "java/lang/IllegalArgumentException" := by
  refine mx_enter (cc := cX9_work) (by decide) (Nat.le_of_ble_eq_true rfl) ?_
  intro p e s m args below meth c ls hx hb hml hown hr hlocks hname hnt hE hh hl
  have hl : lv_has ls 4 [(0, .ref (b + 0)), (1, .int v), (2, .int w)] := hl
  refine lv_iload_n hx hb dX9_work_0 rfl (lv_at hl 2 rfl) ?_
  refine lv_if_eq (tgt := 24) hx hb dX9_work_1 (by decide) (fun h1 => ?_) (fun h1 => ?_)
  ·
    refine lv_aload_n hx hb dX9_work_24 rfl (lv_at hl 0 rfl) ?_
    refine lv_iload_n hx hb dX9_work_25 rfl (lv_at hl 1 rfl) ?_
    exact mx_V (As := [.int v]) (rest := []) hx hb hml hown hE hl.1 hh (kc_X9_213 hE.2.1 ⟨Nat.le_of_ble_eq_true rfl, Nat.le_of_ble_eq_true rfl⟩) (x_X9_madeList_1 l hlst Γ b M mem (v := v) (by omega) (by omega)) rfl (by omega) fH rfl rfl (Nat.le_of_ble_eq_true rfl) dX9_work_26 rfl rfl hnt hlocks (Nat.le_of_ble_eq_true rfl) (Nat.le_of_ble_eq_true rfl)
  ·
    have g1 := h1
    refine lv_iload_n hx hb dX9_work_4 rfl (lv_at hl 2 rfl) ?_
    refine lv_iconst (v := (nI 1)) hx hb dX9_work_5 (by decide) ?_
    refine lv_icmp_eq (tgt := 24) hx hb dX9_work_6 (by decide) (fun h2 => ?_) (fun h2 => ?_)
    ·
      refine lv_aload_n hx hb dX9_work_24 rfl (lv_at hl 0 rfl) ?_
      refine lv_iload_n hx hb dX9_work_25 rfl (lv_at hl 1 rfl) ?_
      exact mx_V (As := [.int v]) (rest := []) hx hb hml hown hE hl.1 hh (kc_X9_213 hE.2.1 ⟨Nat.le_of_ble_eq_true rfl, Nat.le_of_ble_eq_true rfl⟩) (x_X9_madeList_1 l hlst Γ b M mem (v := v) (by omega) (by omega)) rfl (by omega) fH rfl rfl (Nat.le_of_ble_eq_true rfl) dX9_work_26 rfl rfl hnt hlocks (Nat.le_of_ble_eq_true rfl) (Nat.le_of_ble_eq_true rfl)
    ·
      have g2 := h2
      refine lv_iload_n hx hb dX9_work_9 rfl (lv_at hl 2 rfl) ?_
      refine lv_iconst (v := (nI 2)) hx hb dX9_work_10 (by decide) ?_
      refine lv_icmp_eq (tgt := 24) hx hb dX9_work_11 (by decide) (fun h3 => ?_) (fun h3 => ?_)
      ·
        refine lv_aload_n hx hb dX9_work_24 rfl (lv_at hl 0 rfl) ?_
        refine lv_iload_n hx hb dX9_work_25 rfl (lv_at hl 1 rfl) ?_
        exact mx_V (As := [.int v]) (rest := []) hx hb hml hown hE hl.1 hh (kc_X9_213 hE.2.1 ⟨Nat.le_of_ble_eq_true rfl, Nat.le_of_ble_eq_true rfl⟩) (x_X9_madeList_1 l hlst Γ b M mem (v := v) (by omega) (by omega)) rfl (by omega) fH rfl rfl (Nat.le_of_ble_eq_true rfl) dX9_work_26 rfl rfl hnt hlocks (Nat.le_of_ble_eq_true rfl) (Nat.le_of_ble_eq_true rfl)
      ·
        exact (hw.elim g1 (fun q => q.elim g2 h3)).elim
set_option maxHeartbeats 4000000 in
set_option maxRecDepth 100000 in
/-- yX9_work throws java/util/NoSuchElementException -/
theorem x_X9_work_3 (l : Launch) (hlst : l.stackTraces = false) (Γ : Gm) (b M : Nat) (mem : Nat → va_E) {v : Nat} {w : Int32} {lst : Nat → Bool × Nat × Nat × Nat} (hM : 138 ≤ M) (fH : mem 0 = .inr (8, [.ref (b + 1), .ref (b + 72), .ref (b + 75), .ref (b + 78), .ref (b + 80), .ref (b + 91), .ref (b + 93), .ref (b + 96), .ref (b + 109)])) (fLo : mem 96 = aR Γ 5 3 (fun i => some (b + (97 + 4 * i)))) (fls : ∀ z9, z9 < 3 → mem (97 + 4 * z9) = .inr (2, [.ref (b + (97 + 4 * z9 + 1)), .int (bI ((lst z9).1)), .int (nI ((lst z9).2.1)), .int (nI ((lst z9).2.2.1)), .int (nI ((lst z9).2.2.2))])) (hv : v < 3) (hmd : (lst v).1 = false) (hw : w = 0 ∨ w = nI 1 ∨ w = nI 2) : Cx l yX9_work (.code yX9_work cX9_work 4 (some .int)) ({ frames := 7, cells := 1, slots := 6, locals := 111 } : Room) Γ b M [.ref (b + 0), .int (nI v), .int w] mem "java/util/NoSuchElementException" := by
  refine mx_enter (cc := cX9_work) (by decide) (Nat.le_of_ble_eq_true rfl) ?_
  intro p e s m args below meth c ls hx hb hml hown hr hlocks hname hnt hE hh hl
  have hl : lv_has ls 4 [(0, .ref (b + 0)), (1, .int (nI v)), (2, .int w)] := hl
  refine lv_iload_n hx hb dX9_work_0 rfl (lv_at hl 2 rfl) ?_
  refine lv_if_eq (tgt := 24) hx hb dX9_work_1 (by decide) (fun h1 => ?_) (fun h1 => ?_)
  ·
    refine lv_aload_n hx hb dX9_work_24 rfl (lv_at hl 0 rfl) ?_
    refine lv_iload_n hx hb dX9_work_25 rfl (lv_at hl 1 rfl) ?_
    exact mx_V (As := [.int (nI v)]) (rest := []) hx hb hml hown hE hl.1 hh (kc_X9_213 hE.2.1 ⟨Nat.le_of_ble_eq_true rfl, Nat.le_of_ble_eq_true rfl⟩) (x_X9_madeList_2 l hlst Γ b M mem (v := v) (lst := lst) (by omega) fH fLo fls (by omega) (by omega)) rfl (by omega) fH rfl rfl (Nat.le_of_ble_eq_true rfl) dX9_work_26 rfl rfl hnt hlocks (Nat.le_of_ble_eq_true rfl) (Nat.le_of_ble_eq_true rfl)
  ·
    have g1 := h1
    refine lv_iload_n hx hb dX9_work_4 rfl (lv_at hl 2 rfl) ?_
    refine lv_iconst (v := (nI 1)) hx hb dX9_work_5 (by decide) ?_
    refine lv_icmp_eq (tgt := 24) hx hb dX9_work_6 (by decide) (fun h2 => ?_) (fun h2 => ?_)
    ·
      refine lv_aload_n hx hb dX9_work_24 rfl (lv_at hl 0 rfl) ?_
      refine lv_iload_n hx hb dX9_work_25 rfl (lv_at hl 1 rfl) ?_
      exact mx_V (As := [.int (nI v)]) (rest := []) hx hb hml hown hE hl.1 hh (kc_X9_213 hE.2.1 ⟨Nat.le_of_ble_eq_true rfl, Nat.le_of_ble_eq_true rfl⟩) (x_X9_madeList_2 l hlst Γ b M mem (v := v) (lst := lst) (by omega) fH fLo fls (by omega) (by omega)) rfl (by omega) fH rfl rfl (Nat.le_of_ble_eq_true rfl) dX9_work_26 rfl rfl hnt hlocks (Nat.le_of_ble_eq_true rfl) (Nat.le_of_ble_eq_true rfl)
    ·
      have g2 := h2
      refine lv_iload_n hx hb dX9_work_9 rfl (lv_at hl 2 rfl) ?_
      refine lv_iconst (v := (nI 2)) hx hb dX9_work_10 (by decide) ?_
      refine lv_icmp_eq (tgt := 24) hx hb dX9_work_11 (by decide) (fun h3 => ?_) (fun h3 => ?_)
      ·
        refine lv_aload_n hx hb dX9_work_24 rfl (lv_at hl 0 rfl) ?_
        refine lv_iload_n hx hb dX9_work_25 rfl (lv_at hl 1 rfl) ?_
        exact mx_V (As := [.int (nI v)]) (rest := []) hx hb hml hown hE hl.1 hh (kc_X9_213 hE.2.1 ⟨Nat.le_of_ble_eq_true rfl, Nat.le_of_ble_eq_true rfl⟩) (x_X9_madeList_2 l hlst Γ b M mem (v := v) (lst := lst) (by omega) fH fLo fls (by omega) (by omega)) rfl (by omega) fH rfl rfl (Nat.le_of_ble_eq_true rfl) dX9_work_26 rfl rfl hnt hlocks (Nat.le_of_ble_eq_true rfl) (Nat.le_of_ble_eq_true rfl)
      ·
        exact (hw.elim g1 (fun q => q.elim g2 h3)).elim
