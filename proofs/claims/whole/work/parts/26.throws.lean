/-! THROWS: a method that throws E at this memory, and leaves it as it was -/
def nm2 : List String := ["java/lang/RuntimeException", "java/lang/Exception"]
def XE (Γ : Gm) (b M : Nat) (mem : Nat → va_E) (E : String) : String → State → State → Prop := fun E' st t => E' = E ∧ va_P Γ.1 vwCl (gW b M mem) t.heap ∧ va_F (fun q => b ≤ q) st t
def QF : Array Value → State → Outcome → State → Prop := fun _ _ _ _ => False
def Cx (l : Launch) (y : MethodName) (cw : Cond) (rm : Room) (Γ : Gm) (b M : Nat) (av : List Value) (mem : Nat → va_E) (E : String) : Prop :=
  vx_Met l y [cw] rm (va_Pc av (GI Γ b M mem)) QF (XE Γ b M mem E) rm.cells rm.slots (fun q => b ≤ q)
section MX
variable {p : Program} {l : Launch} {e : Env} {R : Room} {s : State} {m : MethodId} {args : Array Value} {below : List Frame} {meth : Method} {c : Code} {H : Heap} {locs : List Loc} {cells slots : Nat} {Q : State → Prop}
variable {cc : ByteArray} {pc : Nat} {ls : Array Slot} {rest st0 : List Value} {Γ : Gm} {b M : Nat} {mem : Nat → va_E} {E : String}
theorem mx_enter {y : MethodName} {maxL : Nat} {ret : Option FieldType} {rm : Room} {av : List Value} (hy : plainName y.cls = true) (hlen : (lg_sl av).length ≤ maxL)
    (body : ∀ (p : Program) (e : Env) (s : State) (m : MethodId) (args : Array Value) (below : List Frame) (meth : Method) (c : Code) (ls : Array Slot), p.tables.exec = Jvm.exec → c.code = cc → c.maxLocals = maxL → s.vm.findClass y.cls = some m.cls → meth.sig.returnType = ret → meth.locks = false → meth.name = y.name → (∀ x ∈ c.exceptionTable.toList, False) → EX Γ b s → GH Γ b M mem s s.heap [] → lv_has ls maxL (lv_args 0 av) →
      W p l e rm s m args below meth c s.heap [] 0 0 (vx_MQ below QF (XE Γ b M mem E) args s rm.cells rm.slots (fun q => b ≤ q)) (F0 m 0 ls [])) :
    Cx l y (.code y cc maxL ret) rm Γ b M av mem E := by
  refine vx_ofW (cc := cc) (maxL := maxL) (ret := ret) hy rfl ?_
  intro p e s m args below meth c s₁ B hml hnt hv
  obtain ⟨rfl, hP, hE⟩ := hv
  have hl := lv_entry av (n := maxL) hlen
  rw [lg_entry_eq]
  exact body p e s m _ below meth c _ B.exec B.bytes hml (findClass_of_methodNamed B.named) B.returns B.notSynchronized (name_of_methodNamed B.named B.method).1 hnt hE ⟨hP, va_S.rf⟩ hl
theorem GH.ext (hh : GH Γ b M mem s H locs) {t : State} (h1 : H.size ≤ t.heap.size) (h2 : ∀ q : Nat, q < H.size → t.heap[q]? = H[q]?) : XE Γ b M mem E E s t :=
  ⟨rfl, hh.1.kept (fun k q hk => h2 _ (hh.1 k q hk).lt), Nat.le_trans hh.2.1 h1, fun q hq hA => by rw [h2 q (Nat.lt_of_lt_of_le hq hh.2.1)]; exact hh.2.2.1 q hq hA⟩
/-- a call of a method that throws: it goes on outward -/
theorem mx_V {y : MethodName} {bytes : ByteArray} {maxL nL index n ci i N : Nat} {ret : Option FieldType} {own C : String} {T : u_T} {As fs : List Value} {rm : Room} (hx : p.tables.exec = Jvm.exec) (hb : c.code = cc) (hml : c.maxLocals = nL) (hown : s.vm.findClass own = some m.cls) (hE : EX Γ b s) (hl : ls.size = nL)
    (hh : GH Γ b M mem s H locs) (cw : CallW R s args own C index y bytes maxL ret [.code y bytes maxL ret] rm rm.cells rm.slots n) (hM : Cx l y (.code y bytes maxL ret) rm Γ b M (.ref (b + i) :: As) mem E) (hc : vwCl[ci]? = some (C, T, N)) (hi : i < M) (hm : mem i = .inr (ci, fs)) (hn : As.length = n)
    (hst : st0 = As.reverse ++ .ref (b + i) :: rest) (hW : (rest.map fun v => v.category).sum ≤ 8) (hdg : decode cc pc = .ok (.invokevirtual index, 3)) (h0 : rm.cells = 1) (h1 : rm.slots = 6) (hnt : ∀ x ∈ c.exceptionTable.toList, False) (hlocks : meth.locks = false) (hR1 : 1 ≤ R.cells) (hR2 : 6 ≤ R.slots) :
    W p l e R s m args below meth c H locs 0 0 (vx_MQ below QF (XE Γ b M mem E) args s 1 6 (fun q => b ≤ q)) (F0 m pc ls st0) := by
  have hr : vx_Run p l e R s m args below meth c H locs 0 0 rm.cells rm.slots (F0 m pc ls st0) rest (QF (Value.ref (b + i) :: As).toArray) (XE Γ b M mem E) (fun q => b ≤ q) := vx_runV (As := As) (rest := rest) (Ts := []) (cc := cc) (nL := nL) ⟨hx, hb, hml, hown, fun _ h => nomatch h⟩ hM cw ⟨va_blind, va_recv hE.1 hh.1 hc (gW_at hi hm), fun U hU hW => ⟨rfl, hh.at hE hU hW⟩⟩ rfl hn hl hst (lv_room hW) hdg ⟨by rw [h0]; omega, by rw [h1]; omega⟩
  intro T hT X
  rcases hr T hT X with ⟨v, st₀, t, T', L, -, -, -, -, -, hq, -⟩ | ⟨q, st₀, t, T', L, E', ce, e0, X', hL, e1, e2, ⟨rfl, hP, hz, hk⟩, hce, hcv, hcl, st⟩
  · exact hq.elim
  · rw [e0] at hz hk
    have hS := hh.2
    obtain ⟨t2, a1, b1⟩ := vx_out (p := p) (l := l) (e := e) (R := R) (s := s) (m := m) (args := args) (below := below) (meth := meth) (c := c) (H := T'.heap) (locs := locs ++ L) (cells := 0 + rm.cells) (slots := 0 + rm.slots) (Qc := QF) (XC := XE Γ b M mem E') (free := fun q => b ≤ q) (mc := 1) (ms := 6) (pc := pc) (ls := ls) (rest := rest) (E := E') (ce := ce) (q := q)
      (fun x hx => (hnt x hx).elim) hlocks (by rw [e1]; exact hce) hcv hcl
      (fun t9 ht9 _ => ⟨rfl, by rw [ht9, e1]; exact hP, Nat.le_trans hS.1 (by rw [ht9, e1]; exact hz), fun q h1 h2 => by rw [ht9, e1, hk q (Nat.lt_of_lt_of_le h1 hS.1) h2]; exact hS.2.1 q h1 h2⟩)
      (fun z hz => by
        rcases List.mem_append.mp hz with h | h
        · exact hS.2.2 z h
        · exact hL z h) (by rw [h0]; omega) (by rw [h1]; omega) T' rfl X'
    exact ⟨t2, st.trans a1, b1⟩
end MX

theorem at_ISE {A : Array Value} {s : State} (hg : EXg s) (hn : EXn s) : ∀ w ∈ vx_atS RX9 80 "java/lang/IllegalStateException" nm2, w.before A s = true := by
  refine vx_hat (B := [.declares ⟨"java/lang/RuntimeException", "<init>", "(Ljava/lang/String;)V"⟩, .declares ⟨"java/lang/Exception", "<init>", "(Ljava/lang/String;)V"⟩, .declares ⟨"java/lang/Throwable", "<init>", "(Ljava/lang/String;)V"⟩, .castable "java/lang/IllegalStateException" "java/lang/IllegalStateException"]) ?_ ?_ ?_
  · intro w hw
    exact hg w (mem_r (big := lw_tbl) _ [53, 349, 358, 363, 366, 368, 350, 351, 66, 67, 352, 357, 364, 384, 339, 385, 341, 386, 343, 353, 355, 345, 380, 381, 383, 345, 371, 372, 373, 374, 374, 375, 376, 377, 377, 378, 379, 380, 370, 328, 336, 337, 338, 340, 342, 344, 348, 347, 346] (by decide +kernel) w hw) (List.mem_filter.mp hw).2 A
  · rw [show (vx_atS RX9 80 "java/lang/IllegalStateException" nm2).filter (fun w => !goodWord w) = [.declares ⟨"java/lang/RuntimeException", "<init>", "(Ljava/lang/String;)V"⟩, .declares ⟨"java/lang/Exception", "<init>", "(Ljava/lang/String;)V"⟩, .declares ⟨"java/lang/Throwable", "<init>", "(Ljava/lang/String;)V"⟩, .castable "java/lang/IllegalStateException" "java/lang/IllegalStateException"] by decide +kernel]
    exact fun w hw => hw
  · refine vx_c (va_tabs rfl rfl (hn.2.2.2.2.1 _ (List.mem_of_getElem? (i := 0) rfl))) (vx_c (va_tabs rfl rfl (hn.2.2.2.2.1 _ (List.mem_of_getElem? (i := 1) rfl))) (vx_c (va_tabs rfl rfl (hn.2.2.2.2.1 _ (List.mem_of_getElem? (i := 2) rfl))) (vx_c (va_tabs rfl rfl (hn.2.2.1 ("java/lang/IllegalStateException", "java/lang/IllegalStateException") (List.mem_of_getElem? (i := 0) rfl))) vx_n)))
theorem wn_ISE {U : State} (h : EXg U) (A : Array Value) : (Cond.initialized "java/lang/IllegalStateException").before A U = true := h _ (List.mem_of_getElem? (i := 56) (by decide +kernel)) (by decide +kernel) A
theorem go_ISE : ∀ w ∈ Cond.classLink RX9 76 "java/lang/IllegalStateException" :: Cond.initialized "java/lang/IllegalStateException" :: vx_atS RX9 80 "java/lang/IllegalStateException" nm2, vx_ot w = true := List.all_eq_true.mp (by decide +kernel)
theorem mx_thS_ISE {p : Program} {l : Launch} {e : Env} {R : Room} {s : State} {m : MethodId} {args : Array Value} {below : List Frame} {meth : Method} {c : Code} {H : Heap} {locs : List Loc} {cc : ByteArray} {pc nL is : Nat} {tx : String} {ls : Array Slot} {rest : List Value} {Γ : Gm} {b M : Nat} {mem : Nat → va_E}
    (hx : p.tables.exec = Jvm.exec) (hb : c.code = cc) (hlst : l.stackTraces = false) (hown : s.vm.findClass RX9 = some m.cls) (hE : EX Γ b s) (hh : GH Γ b M mem s H locs) (hnt : ∀ x ∈ c.exceptionTable.toList, False) (hml : c.maxLocals = nL) (hl : ls.size = nL) (hstr : ∃ a : Nat, vk_R RX9 is tx a s)
    (d0 : decode cc pc = .ok (.new 76, 3)) (d3 : decode cc (pc + 3) = .ok (.dup, 1)) (d4 : decode cc (pc + 4) = .ok (.ldc is, 2)) (d6 : decode cc (pc + 6) = .ok (.invokespecial 80, 3)) (d9 : decode cc (pc + 9) = .ok (.athrow, 1))
    (hf : 6 ≤ R.frames) (hlo : (rest.map fun v => v.category).sum + 82 ≤ R.locals) (hc : 1 ≤ R.cells) (hs : 6 ≤ R.slots) (hlocks : meth.locks = false) :
    W p l e R s m args below meth c H locs 0 0 (vx_MQ below QF (XE Γ b M mem "java/lang/IllegalStateException") args s 1 6 (fun q => b ≤ q)) (F0 m pc ls rest) := by
  obtain ⟨sa, hsa⟩ := hstr
  exact vx_throwS (A := fun q => b ≤ q) (names := nm2) hx hb hlst hown (by decide) (by decide) (wc_X9_76 hE.2.1 args) (wn_ISE hE.2.1 args) hsa (at_ISE hE.2.1 hE.2.2.1) go_ISE hE.2.2.2.1.1 hE.2.2.2.1.2 hh.2 (hl.trans hml.symm) d0 d3 d4 d6 d9 (fun x hx => (hnt x hx).elim) (by show 2 + 3 < _; omega) (by show _ + (13 * (2 + 1) + 43) ≤ _; omega) (by omega) (by omega) hlocks (fun t _ h1 h2 => hh.ext h1 h2) hh.2.2.2 (by omega) (by omega)
theorem mx_thW_ISE {p : Program} {l : Launch} {e : Env} {R : Room} {s : State} {m : MethodId} {args : Array Value} {below : List Frame} {meth : Method} {c : Code} {H : Heap} {locs : List Loc} {cc : ByteArray} {pc nL is : Nat} {tx : String} {ls : Array Slot} {rest : List Value} {Γ : Gm} {b M : Nat} {mem : Nat → va_E}
    (hx : p.tables.exec = Jvm.exec) (hb : c.code = cc) (hlst : l.stackTraces = false) (hown : s.vm.findClass RX9 = some m.cls) (hE : EX Γ b s) (hh : GH Γ b M mem s H locs) (hnt : ∀ x ∈ c.exceptionTable.toList, False) (hml : c.maxLocals = nL) (hl : ls.size = nL) (hstr : ∃ a : Nat, vk_R RX9 is tx a s)
    (d0 : decode cc pc = .ok (.new 76, 3)) (d3 : decode cc (pc + 3) = .ok (.dup, 1)) (d4 : decode cc (pc + 4) = .ok (.ldc_w is, 3)) (d6 : decode cc (pc + 7) = .ok (.invokespecial 80, 3)) (d9 : decode cc (pc + 10) = .ok (.athrow, 1))
    (hf : 6 ≤ R.frames) (hlo : (rest.map fun v => v.category).sum + 82 ≤ R.locals) (hc : 1 ≤ R.cells) (hs : 6 ≤ R.slots) (hlocks : meth.locks = false) :
    W p l e R s m args below meth c H locs 0 0 (vx_MQ below QF (XE Γ b M mem "java/lang/IllegalStateException") args s 1 6 (fun q => b ≤ q)) (F0 m pc ls rest) := by
  obtain ⟨sa, hsa⟩ := hstr
  exact vx_throwSW (A := fun q => b ≤ q) (names := nm2) hx hb hlst hown (by decide) (by decide) (wc_X9_76 hE.2.1 args) (wn_ISE hE.2.1 args) hsa (at_ISE hE.2.1 hE.2.2.1) go_ISE hE.2.2.2.1.1 hE.2.2.2.1.2 hh.2 (hl.trans hml.symm) d0 d3 d4 d6 d9 (fun x hx => (hnt x hx).elim) (by show 2 + 3 < _; omega) (by show _ + (13 * (2 + 1) + 43) ≤ _; omega) (by omega) (by omega) hlocks (fun t _ h1 h2 => hh.ext h1 h2) hh.2.2.2 (by omega) (by omega)
theorem at_IOB {A : Array Value} {s : State} (hg : EXg s) (hn : EXn s) : ∀ w ∈ vx_atS RX9 101 "java/lang/IndexOutOfBoundsException" nm2, w.before A s = true := by
  refine vx_hat (B := [.declares ⟨"java/lang/RuntimeException", "<init>", "(Ljava/lang/String;)V"⟩, .declares ⟨"java/lang/Exception", "<init>", "(Ljava/lang/String;)V"⟩, .declares ⟨"java/lang/Throwable", "<init>", "(Ljava/lang/String;)V"⟩, .castable "java/lang/IndexOutOfBoundsException" "java/lang/IndexOutOfBoundsException"]) ?_ ?_ ?_
  · intro w hw
    exact hg w (mem_r (big := lw_tbl) _ [53, 349, 358, 363, 366, 368, 350, 351, 66, 67, 352, 357, 364, 384, 339, 385, 341, 386, 343, 353, 355, 345, 380, 381, 383, 345, 426, 427, 428, 374, 374, 375, 376, 377, 377, 378, 379, 380, 425, 416, 418, 361, 419, 420, 421, 422, 348, 347, 423] (by decide +kernel) w hw) (List.mem_filter.mp hw).2 A
  · rw [show (vx_atS RX9 101 "java/lang/IndexOutOfBoundsException" nm2).filter (fun w => !goodWord w) = [.declares ⟨"java/lang/RuntimeException", "<init>", "(Ljava/lang/String;)V"⟩, .declares ⟨"java/lang/Exception", "<init>", "(Ljava/lang/String;)V"⟩, .declares ⟨"java/lang/Throwable", "<init>", "(Ljava/lang/String;)V"⟩, .castable "java/lang/IndexOutOfBoundsException" "java/lang/IndexOutOfBoundsException"] by decide +kernel]
    exact fun w hw => hw
  · refine vx_c (va_tabs rfl rfl (hn.2.2.2.2.1 _ (List.mem_of_getElem? (i := 0) rfl))) (vx_c (va_tabs rfl rfl (hn.2.2.2.2.1 _ (List.mem_of_getElem? (i := 1) rfl))) (vx_c (va_tabs rfl rfl (hn.2.2.2.2.1 _ (List.mem_of_getElem? (i := 2) rfl))) (vx_c (va_tabs rfl rfl (hn.2.2.1 ("java/lang/IndexOutOfBoundsException", "java/lang/IndexOutOfBoundsException") (List.mem_of_getElem? (i := 1) rfl))) vx_n)))
theorem wn_IOB {U : State} (h : EXg U) (A : Array Value) : (Cond.initialized "java/lang/IndexOutOfBoundsException").before A U = true := h _ (List.mem_of_getElem? (i := 57) (by decide +kernel)) (by decide +kernel) A
theorem go_IOB : ∀ w ∈ Cond.classLink RX9 97 "java/lang/IndexOutOfBoundsException" :: Cond.initialized "java/lang/IndexOutOfBoundsException" :: vx_atS RX9 101 "java/lang/IndexOutOfBoundsException" nm2, vx_ot w = true := List.all_eq_true.mp (by decide +kernel)
theorem mx_thS_IOB {p : Program} {l : Launch} {e : Env} {R : Room} {s : State} {m : MethodId} {args : Array Value} {below : List Frame} {meth : Method} {c : Code} {H : Heap} {locs : List Loc} {cc : ByteArray} {pc nL is : Nat} {tx : String} {ls : Array Slot} {rest : List Value} {Γ : Gm} {b M : Nat} {mem : Nat → va_E}
    (hx : p.tables.exec = Jvm.exec) (hb : c.code = cc) (hlst : l.stackTraces = false) (hown : s.vm.findClass RX9 = some m.cls) (hE : EX Γ b s) (hh : GH Γ b M mem s H locs) (hnt : ∀ x ∈ c.exceptionTable.toList, False) (hml : c.maxLocals = nL) (hl : ls.size = nL) (hstr : ∃ a : Nat, vk_R RX9 is tx a s)
    (d0 : decode cc pc = .ok (.new 97, 3)) (d3 : decode cc (pc + 3) = .ok (.dup, 1)) (d4 : decode cc (pc + 4) = .ok (.ldc is, 2)) (d6 : decode cc (pc + 6) = .ok (.invokespecial 101, 3)) (d9 : decode cc (pc + 9) = .ok (.athrow, 1))
    (hf : 6 ≤ R.frames) (hlo : (rest.map fun v => v.category).sum + 82 ≤ R.locals) (hc : 1 ≤ R.cells) (hs : 6 ≤ R.slots) (hlocks : meth.locks = false) :
    W p l e R s m args below meth c H locs 0 0 (vx_MQ below QF (XE Γ b M mem "java/lang/IndexOutOfBoundsException") args s 1 6 (fun q => b ≤ q)) (F0 m pc ls rest) := by
  obtain ⟨sa, hsa⟩ := hstr
  exact vx_throwS (A := fun q => b ≤ q) (names := nm2) hx hb hlst hown (by decide) (by decide) (wc_X9_97 hE.2.1 args) (wn_IOB hE.2.1 args) hsa (at_IOB hE.2.1 hE.2.2.1) go_IOB hE.2.2.2.1.1 hE.2.2.2.1.2 hh.2 (hl.trans hml.symm) d0 d3 d4 d6 d9 (fun x hx => (hnt x hx).elim) (by show 2 + 3 < _; omega) (by show _ + (13 * (2 + 1) + 43) ≤ _; omega) (by omega) (by omega) hlocks (fun t _ h1 h2 => hh.ext h1 h2) hh.2.2.2 (by omega) (by omega)
theorem mx_thW_IOB {p : Program} {l : Launch} {e : Env} {R : Room} {s : State} {m : MethodId} {args : Array Value} {below : List Frame} {meth : Method} {c : Code} {H : Heap} {locs : List Loc} {cc : ByteArray} {pc nL is : Nat} {tx : String} {ls : Array Slot} {rest : List Value} {Γ : Gm} {b M : Nat} {mem : Nat → va_E}
    (hx : p.tables.exec = Jvm.exec) (hb : c.code = cc) (hlst : l.stackTraces = false) (hown : s.vm.findClass RX9 = some m.cls) (hE : EX Γ b s) (hh : GH Γ b M mem s H locs) (hnt : ∀ x ∈ c.exceptionTable.toList, False) (hml : c.maxLocals = nL) (hl : ls.size = nL) (hstr : ∃ a : Nat, vk_R RX9 is tx a s)
    (d0 : decode cc pc = .ok (.new 97, 3)) (d3 : decode cc (pc + 3) = .ok (.dup, 1)) (d4 : decode cc (pc + 4) = .ok (.ldc_w is, 3)) (d6 : decode cc (pc + 7) = .ok (.invokespecial 101, 3)) (d9 : decode cc (pc + 10) = .ok (.athrow, 1))
    (hf : 6 ≤ R.frames) (hlo : (rest.map fun v => v.category).sum + 82 ≤ R.locals) (hc : 1 ≤ R.cells) (hs : 6 ≤ R.slots) (hlocks : meth.locks = false) :
    W p l e R s m args below meth c H locs 0 0 (vx_MQ below QF (XE Γ b M mem "java/lang/IndexOutOfBoundsException") args s 1 6 (fun q => b ≤ q)) (F0 m pc ls rest) := by
  obtain ⟨sa, hsa⟩ := hstr
  exact vx_throwSW (A := fun q => b ≤ q) (names := nm2) hx hb hlst hown (by decide) (by decide) (wc_X9_97 hE.2.1 args) (wn_IOB hE.2.1 args) hsa (at_IOB hE.2.1 hE.2.2.1) go_IOB hE.2.2.2.1.1 hE.2.2.2.1.2 hh.2 (hl.trans hml.symm) d0 d3 d4 d6 d9 (fun x hx => (hnt x hx).elim) (by show 2 + 3 < _; omega) (by show _ + (13 * (2 + 1) + 43) ≤ _; omega) (by omega) (by omega) hlocks (fun t _ h1 h2 => hh.ext h1 h2) hh.2.2.2 (by omega) (by omega)
theorem at_IAE {A : Array Value} {s : State} (hg : EXg s) (hn : EXn s) : ∀ w ∈ vx_atS RX9 119 "java/lang/IllegalArgumentException" nm2, w.before A s = true := by
  refine vx_hat (B := [.declares ⟨"java/lang/RuntimeException", "<init>", "(Ljava/lang/String;)V"⟩, .declares ⟨"java/lang/Exception", "<init>", "(Ljava/lang/String;)V"⟩, .declares ⟨"java/lang/Throwable", "<init>", "(Ljava/lang/String;)V"⟩, .castable "java/lang/IllegalArgumentException" "java/lang/IllegalArgumentException"]) ?_ ?_ ?_
  · intro w hw
    exact hg w (mem_r (big := lw_tbl) _ [53, 349, 358, 363, 366, 368, 350, 351, 66, 67, 352, 357, 364, 384, 339, 385, 341, 386, 343, 353, 355, 345, 380, 381, 383, 345, 464, 465, 466, 374, 374, 375, 376, 377, 377, 378, 379, 380, 463, 454, 456, 360, 457, 458, 459, 460, 348, 347, 461] (by decide +kernel) w hw) (List.mem_filter.mp hw).2 A
  · rw [show (vx_atS RX9 119 "java/lang/IllegalArgumentException" nm2).filter (fun w => !goodWord w) = [.declares ⟨"java/lang/RuntimeException", "<init>", "(Ljava/lang/String;)V"⟩, .declares ⟨"java/lang/Exception", "<init>", "(Ljava/lang/String;)V"⟩, .declares ⟨"java/lang/Throwable", "<init>", "(Ljava/lang/String;)V"⟩, .castable "java/lang/IllegalArgumentException" "java/lang/IllegalArgumentException"] by decide +kernel]
    exact fun w hw => hw
  · refine vx_c (va_tabs rfl rfl (hn.2.2.2.2.1 _ (List.mem_of_getElem? (i := 0) rfl))) (vx_c (va_tabs rfl rfl (hn.2.2.2.2.1 _ (List.mem_of_getElem? (i := 1) rfl))) (vx_c (va_tabs rfl rfl (hn.2.2.2.2.1 _ (List.mem_of_getElem? (i := 2) rfl))) (vx_c (va_tabs rfl rfl (hn.2.2.1 ("java/lang/IllegalArgumentException", "java/lang/IllegalArgumentException") (List.mem_of_getElem? (i := 2) rfl))) vx_n)))
theorem wn_IAE {U : State} (h : EXg U) (A : Array Value) : (Cond.initialized "java/lang/IllegalArgumentException").before A U = true := h _ (List.mem_of_getElem? (i := 58) (by decide +kernel)) (by decide +kernel) A
theorem go_IAE : ∀ w ∈ Cond.classLink RX9 115 "java/lang/IllegalArgumentException" :: Cond.initialized "java/lang/IllegalArgumentException" :: vx_atS RX9 119 "java/lang/IllegalArgumentException" nm2, vx_ot w = true := List.all_eq_true.mp (by decide +kernel)
theorem mx_thS_IAE {p : Program} {l : Launch} {e : Env} {R : Room} {s : State} {m : MethodId} {args : Array Value} {below : List Frame} {meth : Method} {c : Code} {H : Heap} {locs : List Loc} {cc : ByteArray} {pc nL is : Nat} {tx : String} {ls : Array Slot} {rest : List Value} {Γ : Gm} {b M : Nat} {mem : Nat → va_E}
    (hx : p.tables.exec = Jvm.exec) (hb : c.code = cc) (hlst : l.stackTraces = false) (hown : s.vm.findClass RX9 = some m.cls) (hE : EX Γ b s) (hh : GH Γ b M mem s H locs) (hnt : ∀ x ∈ c.exceptionTable.toList, False) (hml : c.maxLocals = nL) (hl : ls.size = nL) (hstr : ∃ a : Nat, vk_R RX9 is tx a s)
    (d0 : decode cc pc = .ok (.new 115, 3)) (d3 : decode cc (pc + 3) = .ok (.dup, 1)) (d4 : decode cc (pc + 4) = .ok (.ldc is, 2)) (d6 : decode cc (pc + 6) = .ok (.invokespecial 119, 3)) (d9 : decode cc (pc + 9) = .ok (.athrow, 1))
    (hf : 6 ≤ R.frames) (hlo : (rest.map fun v => v.category).sum + 82 ≤ R.locals) (hc : 1 ≤ R.cells) (hs : 6 ≤ R.slots) (hlocks : meth.locks = false) :
    W p l e R s m args below meth c H locs 0 0 (vx_MQ below QF (XE Γ b M mem "java/lang/IllegalArgumentException") args s 1 6 (fun q => b ≤ q)) (F0 m pc ls rest) := by
  obtain ⟨sa, hsa⟩ := hstr
  exact vx_throwS (A := fun q => b ≤ q) (names := nm2) hx hb hlst hown (by decide) (by decide) (wc_X9_115 hE.2.1 args) (wn_IAE hE.2.1 args) hsa (at_IAE hE.2.1 hE.2.2.1) go_IAE hE.2.2.2.1.1 hE.2.2.2.1.2 hh.2 (hl.trans hml.symm) d0 d3 d4 d6 d9 (fun x hx => (hnt x hx).elim) (by show 2 + 3 < _; omega) (by show _ + (13 * (2 + 1) + 43) ≤ _; omega) (by omega) (by omega) hlocks (fun t _ h1 h2 => hh.ext h1 h2) hh.2.2.2 (by omega) (by omega)
theorem mx_thW_IAE {p : Program} {l : Launch} {e : Env} {R : Room} {s : State} {m : MethodId} {args : Array Value} {below : List Frame} {meth : Method} {c : Code} {H : Heap} {locs : List Loc} {cc : ByteArray} {pc nL is : Nat} {tx : String} {ls : Array Slot} {rest : List Value} {Γ : Gm} {b M : Nat} {mem : Nat → va_E}
    (hx : p.tables.exec = Jvm.exec) (hb : c.code = cc) (hlst : l.stackTraces = false) (hown : s.vm.findClass RX9 = some m.cls) (hE : EX Γ b s) (hh : GH Γ b M mem s H locs) (hnt : ∀ x ∈ c.exceptionTable.toList, False) (hml : c.maxLocals = nL) (hl : ls.size = nL) (hstr : ∃ a : Nat, vk_R RX9 is tx a s)
    (d0 : decode cc pc = .ok (.new 115, 3)) (d3 : decode cc (pc + 3) = .ok (.dup, 1)) (d4 : decode cc (pc + 4) = .ok (.ldc_w is, 3)) (d6 : decode cc (pc + 7) = .ok (.invokespecial 119, 3)) (d9 : decode cc (pc + 10) = .ok (.athrow, 1))
    (hf : 6 ≤ R.frames) (hlo : (rest.map fun v => v.category).sum + 82 ≤ R.locals) (hc : 1 ≤ R.cells) (hs : 6 ≤ R.slots) (hlocks : meth.locks = false) :
    W p l e R s m args below meth c H locs 0 0 (vx_MQ below QF (XE Γ b M mem "java/lang/IllegalArgumentException") args s 1 6 (fun q => b ≤ q)) (F0 m pc ls rest) := by
  obtain ⟨sa, hsa⟩ := hstr
  exact vx_throwSW (A := fun q => b ≤ q) (names := nm2) hx hb hlst hown (by decide) (by decide) (wc_X9_115 hE.2.1 args) (wn_IAE hE.2.1 args) hsa (at_IAE hE.2.1 hE.2.2.1) go_IAE hE.2.2.2.1.1 hE.2.2.2.1.2 hh.2 (hl.trans hml.symm) d0 d3 d4 d6 d9 (fun x hx => (hnt x hx).elim) (by show 2 + 3 < _; omega) (by show _ + (13 * (2 + 1) + 43) ≤ _; omega) (by omega) (by omega) hlocks (fun t _ h1 h2 => hh.ext h1 h2) hh.2.2.2 (by omega) (by omega)
set_option maxHeartbeats 4000000 in
set_option maxRecDepth 100000 in
/-- yX9_document throws java/lang/IllegalStateException -/
theorem x_X9_document_1 (l : Launch) (hlst : l.stackTraces = false) (Γ : Gm) (b M : Nat) (mem : Nat → va_E) {nd : Nat} (hM : 138 ≤ M) (fH : mem 0 = .inr (8, [.ref (b + 1), .ref (b + 72), .ref (b + 75), .ref (b + 78), .ref (b + 80), .ref (b + 91), .ref (b + 93), .ref (b + 96), .ref (b + 109)])) (fC : mem 1 = .inr (0, [.ref (b + 2), .ref (b + 19), .ref (b + 20), .ref (b + 37), .ref (b + 38), .int (nI nd)])) (hnd : nd = 16) : Cx l yX9_document (.code yX9_document cX9_document 1 (some .int)) ({ frames := 6, cells := 1, slots := 6, locals := 90 } : Room) Γ b M [.ref (b + 0)] mem "java/lang/IllegalStateException" := by
  refine mx_enter (cc := cX9_document) (by decide) (Nat.le_of_ble_eq_true rfl) ?_
  intro p e s m args below meth c ls hx hb hml hown hr hlocks hname hnt hE hh hl
  have hl : lv_has ls 1 [(0, .ref (b + 0))] := hl
  refine lv_aload_n hx hb dX9_document_0 rfl (lv_at hl 0 rfl) ?_
  refine gf_X9_collection hx hb hE hown hh (by omega) fH rfl dX9_document_1 ?_
  refine mm_V0r (As := []) (rest := []) hx hb hml hown hE hl.1 hh (kc_X9_72 hE.2.1 ⟨Nat.le_of_ble_eq_true rfl, Nat.le_of_ble_eq_true rfl⟩) (c_X0_isFull l Γ b M mem (nd := nd) (by omega) fC (by omega)) rfl (by omega) fC rfl rfl (Nat.le_of_ble_eq_true rfl) dX9_document_4 rfl rfl (fun H locs hh => ?_)
  refine nn_beq (tgt := 20) hx hb dX9_document_7 (by decide) (fun h1 => ?_) (fun h1 => ?_)
  ·
    exact absurd (of_decide_eq_false h1) (by omega)
  ·
    exact mx_thS_ISE hx hb hlst hown hE hh hnt hml hl.1 (hE.2.2.1.2.1 (RX9, 78, "there are 16 documents") (List.mem_of_getElem? (i := 0) rfl)) dX9_document_10 dX9_document_13 dX9_document_14 dX9_document_16 dX9_document_19 (Nat.le_of_ble_eq_true rfl) (Nat.le_of_ble_eq_true rfl) (Nat.le_of_ble_eq_true rfl) (Nat.le_of_ble_eq_true rfl) hlocks
set_option maxHeartbeats 4000000 in
set_option maxRecDepth 100000 in
/-- yX9_count throws java/lang/IndexOutOfBoundsException -/
theorem x_X9_count_1 (l : Launch) (hlst : l.stackTraces = false) (Γ : Gm) (b M : Nat) (mem : Nat → va_E) {nd : Nat} {d t : Int32} (hM : 138 ≤ M) (fH : mem 0 = .inr (8, [.ref (b + 1), .ref (b + 72), .ref (b + 75), .ref (b + 78), .ref (b + 80), .ref (b + 91), .ref (b + 93), .ref (b + 96), .ref (b + 109)])) (fC : mem 1 = .inr (0, [.ref (b + 2), .ref (b + 19), .ref (b + 20), .ref (b + 37), .ref (b + 38), .int (nI nd)])) (hdt : (inR d nd && inR t 12) = false) : Cx l yX9_count (.code yX9_count cX9_count 3 (some .int)) ({ frames := 6, cells := 1, slots := 6, locals := 90 } : Room) Γ b M [.ref (b + 0), .int d, .int t] mem "java/lang/IndexOutOfBoundsException" := by
  refine mx_enter (cc := cX9_count) (by decide) (Nat.le_of_ble_eq_true rfl) ?_
  intro p e s m args below meth c ls hx hb hml hown hr hlocks hname hnt hE hh hl
  have hl : lv_has ls 3 [(0, .ref (b + 0)), (1, .int d), (2, .int t)] := hl
  refine lv_aload_n hx hb dX9_count_0 rfl (lv_at hl 0 rfl) ?_
  refine gf_X9_collection hx hb hE hown hh (by omega) fH rfl dX9_count_1 ?_
  refine lv_iload_n hx hb dX9_count_4 rfl (lv_at hl 1 rfl) ?_
  refine mm_V0r (As := [.int d]) (rest := []) hx hb hml hown hE hl.1 hh (kc_X9_90 hE.2.1 ⟨Nat.le_of_ble_eq_true rfl, Nat.le_of_ble_eq_true rfl⟩) (c_X0_holds l Γ b M mem (nd := nd) (d := d) (by omega) fC) rfl (by omega) fC rfl rfl (Nat.le_of_ble_eq_true rfl) dX9_count_5 rfl rfl (fun H locs hh => ?_)
  refine nn_beq (tgt := 18) hx hb dX9_count_8 (by decide) (fun h1 => ?_) (fun h1 => ?_)
  ·
    exact mx_thS_IOB hx hb hlst hown hE hh hnt hml hl.1 (hE.2.2.1.2.1 (RX9, 99, "no such document or term") (List.mem_of_getElem? (i := 1) rfl)) dX9_count_18 dX9_count_21 dX9_count_22 dX9_count_24 dX9_count_27 (Nat.le_of_ble_eq_true rfl) (Nat.le_of_ble_eq_true rfl) (Nat.le_of_ble_eq_true rfl) (Nat.le_of_ble_eq_true rfl) hlocks
  ·
    have g1 := h1
    refine lv_iload_n hx hb dX9_count_11 rfl (lv_at hl 2 rfl) ?_
    refine mm_S0r (As := [.int t]) (rest := []) hx hb hml hown hE hl.1 hh (kc_X9_94 hE.2.1 ⟨Nat.le_of_ble_eq_true rfl, Nat.le_of_ble_eq_true rfl⟩) (c_X9_isTerm l Γ b M mem (t := t)) rfl rfl (Nat.le_of_ble_eq_true rfl) dX9_count_12 rfl rfl (fun H locs hh => ?_)
    refine nn_bne (tgt := 28) hx hb dX9_count_15 (by decide) (fun h2 => ?_) (fun h2 => ?_)
    ·
      exact absurd hdt (by rw [g1, h2]; decide)
    ·
      exact mx_thS_IOB hx hb hlst hown hE hh hnt hml hl.1 (hE.2.2.1.2.1 (RX9, 99, "no such document or term") (List.mem_of_getElem? (i := 1) rfl)) dX9_count_18 dX9_count_21 dX9_count_22 dX9_count_24 dX9_count_27 (Nat.le_of_ble_eq_true rfl) (Nat.le_of_ble_eq_true rfl) (Nat.le_of_ble_eq_true rfl) (Nat.le_of_ble_eq_true rfl) hlocks
set_option maxHeartbeats 4000000 in
set_option maxRecDepth 100000 in
/-- yX9_weigh throws java/lang/IndexOutOfBoundsException -/
theorem x_X9_weigh_1 (l : Launch) (hlst : l.stackTraces = false) (Γ : Gm) (b M : Nat) (mem : Nat → va_E) {nd : Nat} {d t : Int32} {x : UInt32} (hM : 138 ≤ M) (fH : mem 0 = .inr (8, [.ref (b + 1), .ref (b + 72), .ref (b + 75), .ref (b + 78), .ref (b + 80), .ref (b + 91), .ref (b + 93), .ref (b + 96), .ref (b + 109)])) (fC : mem 1 = .inr (0, [.ref (b + 2), .ref (b + 19), .ref (b + 20), .ref (b + 37), .ref (b + 38), .int (nI nd)])) (hdt : (inR d nd && inR t 12) = false) : Cx l yX9_weigh (.code yX9_weigh cX9_weigh 4 none) ({ frames := 6, cells := 1, slots := 6, locals := 90 } : Room) Γ b M [.ref (b + 0), .int d, .int t, .float x] mem "java/lang/IndexOutOfBoundsException" := by
  refine mx_enter (cc := cX9_weigh) (by decide) (Nat.le_of_ble_eq_true rfl) ?_
  intro p e s m args below meth c ls hx hb hml hown hr hlocks hname hnt hE hh hl
  have hl : lv_has ls 4 [(0, .ref (b + 0)), (1, .int d), (2, .int t), (3, .float x)] := hl
  refine lv_aload_n hx hb dX9_weigh_0 rfl (lv_at hl 0 rfl) ?_
  refine gf_X9_collection hx hb hE hown hh (by omega) fH rfl dX9_weigh_1 ?_
  refine lv_iload_n hx hb dX9_weigh_4 rfl (lv_at hl 1 rfl) ?_
  refine mm_V0r (As := [.int d]) (rest := []) hx hb hml hown hE hl.1 hh (kc_X9_90 hE.2.1 ⟨Nat.le_of_ble_eq_true rfl, Nat.le_of_ble_eq_true rfl⟩) (c_X0_holds l Γ b M mem (nd := nd) (d := d) (by omega) fC) rfl (by omega) fC rfl rfl (Nat.le_of_ble_eq_true rfl) dX9_weigh_5 rfl rfl (fun H locs hh => ?_)
  refine nn_beq (tgt := 18) hx hb dX9_weigh_8 (by decide) (fun h1 => ?_) (fun h1 => ?_)
  ·
    exact mx_thS_IOB hx hb hlst hown hE hh hnt hml hl.1 (hE.2.2.1.2.1 (RX9, 99, "no such document or term") (List.mem_of_getElem? (i := 1) rfl)) dX9_weigh_18 dX9_weigh_21 dX9_weigh_22 dX9_weigh_24 dX9_weigh_27 (Nat.le_of_ble_eq_true rfl) (Nat.le_of_ble_eq_true rfl) (Nat.le_of_ble_eq_true rfl) (Nat.le_of_ble_eq_true rfl) hlocks
  ·
    have g1 := h1
    refine lv_iload_n hx hb dX9_weigh_11 rfl (lv_at hl 2 rfl) ?_
    refine mm_S0r (As := [.int t]) (rest := []) hx hb hml hown hE hl.1 hh (kc_X9_94 hE.2.1 ⟨Nat.le_of_ble_eq_true rfl, Nat.le_of_ble_eq_true rfl⟩) (c_X9_isTerm l Γ b M mem (t := t)) rfl rfl (Nat.le_of_ble_eq_true rfl) dX9_weigh_12 rfl rfl (fun H locs hh => ?_)
    refine nn_bne (tgt := 28) hx hb dX9_weigh_15 (by decide) (fun h2 => ?_) (fun h2 => ?_)
    ·
      exact absurd hdt (by rw [g1, h2]; decide)
    ·
      exact mx_thS_IOB hx hb hlst hown hE hh hnt hml hl.1 (hE.2.2.1.2.1 (RX9, 99, "no such document or term") (List.mem_of_getElem? (i := 1) rfl)) dX9_weigh_18 dX9_weigh_21 dX9_weigh_22 dX9_weigh_24 dX9_weigh_27 (Nat.le_of_ble_eq_true rfl) (Nat.le_of_ble_eq_true rfl) (Nat.le_of_ble_eq_true rfl) (Nat.le_of_ble_eq_true rfl) hlocks
set_option maxHeartbeats 4000000 in
set_option maxRecDepth 100000 in
/-- yX9_quantised throws java/lang/IndexOutOfBoundsException -/
theorem x_X9_quantised_1 (l : Launch) (hlst : l.stackTraces = false) (Γ : Gm) (b M : Nat) (mem : Nat → va_E) {nd : Nat} {d t : Int32} (hM : 138 ≤ M) (fH : mem 0 = .inr (8, [.ref (b + 1), .ref (b + 72), .ref (b + 75), .ref (b + 78), .ref (b + 80), .ref (b + 91), .ref (b + 93), .ref (b + 96), .ref (b + 109)])) (fC : mem 1 = .inr (0, [.ref (b + 2), .ref (b + 19), .ref (b + 20), .ref (b + 37), .ref (b + 38), .int (nI nd)])) (hdt : (inR d nd && inR t 12) = false) : Cx l yX9_quantised (.code yX9_quantised cX9_quantised 3 (some .int)) ({ frames := 6, cells := 1, slots := 6, locals := 90 } : Room) Γ b M [.ref (b + 0), .int d, .int t] mem "java/lang/IndexOutOfBoundsException" := by
  refine mx_enter (cc := cX9_quantised) (by decide) (Nat.le_of_ble_eq_true rfl) ?_
  intro p e s m args below meth c ls hx hb hml hown hr hlocks hname hnt hE hh hl
  have hl : lv_has ls 3 [(0, .ref (b + 0)), (1, .int d), (2, .int t)] := hl
  refine lv_aload_n hx hb dX9_quantised_0 rfl (lv_at hl 0 rfl) ?_
  refine gf_X9_collection hx hb hE hown hh (by omega) fH rfl dX9_quantised_1 ?_
  refine lv_iload_n hx hb dX9_quantised_4 rfl (lv_at hl 1 rfl) ?_
  refine mm_V0r (As := [.int d]) (rest := []) hx hb hml hown hE hl.1 hh (kc_X9_90 hE.2.1 ⟨Nat.le_of_ble_eq_true rfl, Nat.le_of_ble_eq_true rfl⟩) (c_X0_holds l Γ b M mem (nd := nd) (d := d) (by omega) fC) rfl (by omega) fC rfl rfl (Nat.le_of_ble_eq_true rfl) dX9_quantised_5 rfl rfl (fun H locs hh => ?_)
  refine nn_beq (tgt := 18) hx hb dX9_quantised_8 (by decide) (fun h1 => ?_) (fun h1 => ?_)
  ·
    exact mx_thS_IOB hx hb hlst hown hE hh hnt hml hl.1 (hE.2.2.1.2.1 (RX9, 99, "no such document or term") (List.mem_of_getElem? (i := 1) rfl)) dX9_quantised_18 dX9_quantised_21 dX9_quantised_22 dX9_quantised_24 dX9_quantised_27 (Nat.le_of_ble_eq_true rfl) (Nat.le_of_ble_eq_true rfl) (Nat.le_of_ble_eq_true rfl) (Nat.le_of_ble_eq_true rfl) hlocks
  ·
    have g1 := h1
    refine lv_iload_n hx hb dX9_quantised_11 rfl (lv_at hl 2 rfl) ?_
    refine mm_S0r (As := [.int t]) (rest := []) hx hb hml hown hE hl.1 hh (kc_X9_94 hE.2.1 ⟨Nat.le_of_ble_eq_true rfl, Nat.le_of_ble_eq_true rfl⟩) (c_X9_isTerm l Γ b M mem (t := t)) rfl rfl (Nat.le_of_ble_eq_true rfl) dX9_quantised_12 rfl rfl (fun H locs hh => ?_)
    refine nn_bne (tgt := 28) hx hb dX9_quantised_15 (by decide) (fun h2 => ?_) (fun h2 => ?_)
    ·
      exact absurd hdt (by rw [g1, h2]; decide)
    ·
      exact mx_thS_IOB hx hb hlst hown hE hh hnt hml hl.1 (hE.2.2.1.2.1 (RX9, 99, "no such document or term") (List.mem_of_getElem? (i := 1) rfl)) dX9_quantised_18 dX9_quantised_21 dX9_quantised_22 dX9_quantised_24 dX9_quantised_27 (Nat.le_of_ble_eq_true rfl) (Nat.le_of_ble_eq_true rfl) (Nat.le_of_ble_eq_true rfl) (Nat.le_of_ble_eq_true rfl) hlocks
set_option maxHeartbeats 4000000 in
set_option maxRecDepth 100000 in
/-- yX9_count throws java/lang/IllegalStateException -/
theorem x_X9_count_2 (l : Launch) (hlst : l.stackTraces = false) (Γ : Gm) (b M : Nat) (mem : Nat → va_E) {nd d t : Nat} {cn : Nat → Nat → Nat} (hM : 138 ≤ M) (fH : mem 0 = .inr (8, [.ref (b + 1), .ref (b + 72), .ref (b + 75), .ref (b + 78), .ref (b + 80), .ref (b + 91), .ref (b + 93), .ref (b + 96), .ref (b + 109)])) (fC : mem 1 = .inr (0, [.ref (b + 2), .ref (b + 19), .ref (b + 20), .ref (b + 37), .ref (b + 38), .int (nI nd)])) (fCo : mem 2 = aR Γ 7 16 (fun i => some (b + (3 + i)))) (fcn : ∀ z9, z9 < 16 → mem (3 + z9) = aN Γ 12 (cn z9)) (hnd : nd ≤ 16) (hd : d < nd) (ht : t < 12) (hc : cn d t = 1000) : Cx l yX9_count (.code yX9_count cX9_count 3 (some .int)) ({ frames := 6, cells := 1, slots := 6, locals := 90 } : Room) Γ b M [.ref (b + 0), .int (nI d), .int (nI t)] mem "java/lang/IllegalStateException" := by
  refine mx_enter (cc := cX9_count) (by decide) (Nat.le_of_ble_eq_true rfl) ?_
  intro p e s m args below meth c ls hx hb hml hown hr hlocks hname hnt hE hh hl
  have hl : lv_has ls 3 [(0, .ref (b + 0)), (1, .int (nI d)), (2, .int (nI t))] := hl
  refine lv_aload_n hx hb dX9_count_0 rfl (lv_at hl 0 rfl) ?_
  refine gf_X9_collection hx hb hE hown hh (by omega) fH rfl dX9_count_1 ?_
  refine lv_iload_n hx hb dX9_count_4 rfl (lv_at hl 1 rfl) ?_
  refine mm_V0r (As := [.int (nI d)]) (rest := []) hx hb hml hown hE hl.1 hh (kc_X9_90 hE.2.1 ⟨Nat.le_of_ble_eq_true rfl, Nat.le_of_ble_eq_true rfl⟩) (c_X0_holds l Γ b M mem (nd := nd) (d := (nI d)) (by omega) fC) rfl (by omega) fC rfl rfl (Nat.le_of_ble_eq_true rfl) dX9_count_5 rfl rfl (fun H locs hh => ?_)
  refine nn_beq (tgt := 18) hx hb dX9_count_8 (by decide) (fun h1 => ?_) (fun h1 => ?_)
  ·
    exact (no_tf (inR_y hd (by omega)) h1).elim
  ·
    refine lv_iload_n hx hb dX9_count_11 rfl (lv_at hl 2 rfl) ?_
    refine mm_S0r (As := [.int (nI t)]) (rest := []) hx hb hml hown hE hl.1 hh (kc_X9_94 hE.2.1 ⟨Nat.le_of_ble_eq_true rfl, Nat.le_of_ble_eq_true rfl⟩) (c_X9_isTerm l Γ b M mem (t := (nI t))) rfl rfl (Nat.le_of_ble_eq_true rfl) dX9_count_12 rfl rfl (fun H locs hh => ?_)
    refine nn_bne (tgt := 28) hx hb dX9_count_15 (by decide) (fun h2 => ?_) (fun h2 => ?_)
    ·
      refine lv_aload_n hx hb dX9_count_28 rfl (lv_at hl 0 rfl) ?_
      refine gf_X9_collection hx hb hE hown hh (by omega) fH rfl dX9_count_29 ?_
      refine lv_iload_n hx hb dX9_count_32 rfl (lv_at hl 1 rfl) ?_
      refine lv_iload_n hx hb dX9_count_33 rfl (lv_at hl 2 rfl) ?_
      refine mm_V0r (As := [.int (nI d), .int (nI t)]) (rest := []) hx hb hml hown hE hl.1 hh (kc_X9_102 hE.2.1 ⟨Nat.le_of_ble_eq_true rfl, Nat.le_of_ble_eq_true rfl⟩) (c_X0_countOf l Γ b M mem (nd := nd) (d := d) (t := t) (cn := cn) (by omega) fC fCo fcn (by omega) (by omega)) rfl (by omega) fC rfl rfl (Nat.le_of_ble_eq_true rfl) dX9_count_34 rfl rfl (fun H locs hh => ?_)
      refine lv_sipush (v := (nI 1000)) hx hb dX9_count_37 (by decide) ?_
      refine nn_icmp_lt (tgt := 53) hx hb dX9_count_40 (by decide) (by omega) (by omega) (fun h3 => ?_) (fun h3 => ?_)
      ·
        exact absurd h3 (by omega)
      ·
        exact mx_thS_ISE hx hb hlst hown hE hh hnt hml hl.1 (hE.2.2.1.2.1 (RX9, 106, "the count is 1000") (List.mem_of_getElem? (i := 2) rfl)) dX9_count_43 dX9_count_46 dX9_count_47 dX9_count_49 dX9_count_52 (Nat.le_of_ble_eq_true rfl) (Nat.le_of_ble_eq_true rfl) (Nat.le_of_ble_eq_true rfl) (Nat.le_of_ble_eq_true rfl) hlocks
    ·
      exact (no_tf (inR_y ht (by decide)) h2).elim
set_option maxHeartbeats 4000000 in
set_option maxRecDepth 100000 in
/-- yX9_weigh throws java/lang/IllegalArgumentException -/
theorem x_X9_weigh_2 (l : Launch) (hlst : l.stackTraces = false) (Γ : Gm) (b M : Nat) (mem : Nat → va_E) {nd d t : Nat} {x : UInt32} (hM : 138 ≤ M) (fH : mem 0 = .inr (8, [.ref (b + 1), .ref (b + 72), .ref (b + 75), .ref (b + 78), .ref (b + 80), .ref (b + 91), .ref (b + 93), .ref (b + 96), .ref (b + 109)])) (fC : mem 1 = .inr (0, [.ref (b + 2), .ref (b + 19), .ref (b + 20), .ref (b + 37), .ref (b + 38), .int (nI nd)])) (hnd : nd ≤ 16) (hd : d < nd) (ht : t < 12) (hx2 : okF x = true → FP.fcmp x FP.fconst0 = some .lt) : Cx l yX9_weigh (.code yX9_weigh cX9_weigh 4 none) ({ frames := 6, cells := 1, slots := 6, locals := 90 } : Room) Γ b M [.ref (b + 0), .int (nI d), .int (nI t), .float x] mem "java/lang/IllegalArgumentException" := by
  refine mx_enter (cc := cX9_weigh) (by decide) (Nat.le_of_ble_eq_true rfl) ?_
  intro p e s m args below meth c ls hx hb hml hown hr hlocks hname hnt hE hh hl
  have hl : lv_has ls 4 [(0, .ref (b + 0)), (1, .int (nI d)), (2, .int (nI t)), (3, .float x)] := hl
  refine lv_aload_n hx hb dX9_weigh_0 rfl (lv_at hl 0 rfl) ?_
  refine gf_X9_collection hx hb hE hown hh (by omega) fH rfl dX9_weigh_1 ?_
  refine lv_iload_n hx hb dX9_weigh_4 rfl (lv_at hl 1 rfl) ?_
  refine mm_V0r (As := [.int (nI d)]) (rest := []) hx hb hml hown hE hl.1 hh (kc_X9_90 hE.2.1 ⟨Nat.le_of_ble_eq_true rfl, Nat.le_of_ble_eq_true rfl⟩) (c_X0_holds l Γ b M mem (nd := nd) (d := (nI d)) (by omega) fC) rfl (by omega) fC rfl rfl (Nat.le_of_ble_eq_true rfl) dX9_weigh_5 rfl rfl (fun H locs hh => ?_)
  refine nn_beq (tgt := 18) hx hb dX9_weigh_8 (by decide) (fun h1 => ?_) (fun h1 => ?_)
  ·
    exact (no_tf (inR_y hd (by omega)) h1).elim
  ·
    refine lv_iload_n hx hb dX9_weigh_11 rfl (lv_at hl 2 rfl) ?_
    refine mm_S0r (As := [.int (nI t)]) (rest := []) hx hb hml hown hE hl.1 hh (kc_X9_94 hE.2.1 ⟨Nat.le_of_ble_eq_true rfl, Nat.le_of_ble_eq_true rfl⟩) (c_X9_isTerm l Γ b M mem (t := (nI t))) rfl rfl (Nat.le_of_ble_eq_true rfl) dX9_weigh_12 rfl rfl (fun H locs hh => ?_)
    refine nn_bne (tgt := 28) hx hb dX9_weigh_15 (by decide) (fun h2 => ?_) (fun h2 => ?_)
    ·
      refine lv_fload_n hx hb dX9_weigh_28 rfl (lv_at hl 3 rfl) ?_
      refine mm_S0r (As := [.float x]) (rest := []) hx hb hml hown hE hl.1 hh (kc_X9_111 hE.2.1 ⟨Nat.le_of_ble_eq_true rfl, Nat.le_of_ble_eq_true rfl⟩) (c_X9_isAllowed l Γ b M mem (x := x)) rfl rfl (Nat.le_of_ble_eq_true rfl) dX9_weigh_29 rfl rfl (fun H locs hh => ?_)
      refine nn_beq (tgt := 41) hx hb dX9_weigh_32 (by decide) (fun h3 => ?_) (fun h3 => ?_)
      ·
        exact mx_thS_IAE hx hb hlst hown hE hh hnt hml hl.1 (hE.2.2.1.2.1 (RX9, 117, "the weight will not do") (List.mem_of_getElem? (i := 3) rfl)) dX9_weigh_41 dX9_weigh_44 dX9_weigh_45 dX9_weigh_47 dX9_weigh_50 (Nat.le_of_ble_eq_true rfl) (Nat.le_of_ble_eq_true rfl) (Nat.le_of_ble_eq_true rfl) (Nat.le_of_ble_eq_true rfl) hlocks
      ·
        have g1 := hx2 h3
        refine lv_fload_n hx hb dX9_weigh_35 rfl (lv_at hl 3 rfl) ?_
        refine lv_fconst0 hx hb dX9_weigh_36 ?_
        refine lv_fcmp hx hb dX9_weigh_37 ?_
        refine nn_cg_ge (tgt := 51) hx hb dX9_weigh_38 (by decide) (fun h4 => ?_) (fun h4 => ?_)
        ·
          exact absurd g1 h4
        ·
          exact mx_thS_IAE hx hb hlst hown hE hh hnt hml hl.1 (hE.2.2.1.2.1 (RX9, 117, "the weight will not do") (List.mem_of_getElem? (i := 3) rfl)) dX9_weigh_41 dX9_weigh_44 dX9_weigh_45 dX9_weigh_47 dX9_weigh_50 (Nat.le_of_ble_eq_true rfl) (Nat.le_of_ble_eq_true rfl) (Nat.le_of_ble_eq_true rfl) (Nat.le_of_ble_eq_true rfl) hlocks
    ·
      exact (no_tf (inR_y ht (by decide)) h2).elim
set_option maxHeartbeats 4000000 in
set_option maxRecDepth 100000 in
/-- yX9_token throws java/lang/IndexOutOfBoundsException -/
theorem x_X9_token_1 (l : Launch) (hlst : l.stackTraces = false) (Γ : Gm) (b M : Nat) (mem : Nat → va_E) {nd : Nat} {d : Int32} {v0 v1 v2 v3 : UInt32}  (hM : 138 ≤ M) (fH : mem 0 = .inr (8, [.ref (b + 1), .ref (b + 72), .ref (b + 75), .ref (b + 78), .ref (b + 80), .ref (b + 91), .ref (b + 93), .ref (b + 96), .ref (b + 109)])) (fC : mem 1 = .inr (0, [.ref (b + 2), .ref (b + 19), .ref (b + 20), .ref (b + 37), .ref (b + 38), .int (nI nd)])) (hdn : inR d nd = false) : Cx l yX9_token (.code yX9_token cX9_token 7 (some .int)) ({ frames := 6, cells := 1, slots := 6, locals := 90 } : Room) Γ b M [.ref (b + 0), .int d, .float v0, .float v1, .float v2, .float v3] mem "java/lang/IndexOutOfBoundsException" := by
  refine mx_enter (cc := cX9_token) (by decide) (Nat.le_of_ble_eq_true rfl) ?_
  intro p e s m args below meth c ls hx hb hml hown hr hlocks hname hnt hE hh hl
  have hl : lv_has ls 7 [(0, .ref (b + 0)), (1, .int d), (2, .float v0), (3, .float v1), (4, .float v2), (5, .float v3)] := hl
  refine lv_aload_n hx hb dX9_token_0 rfl (lv_at hl 0 rfl) ?_
  refine gf_X9_collection hx hb hE hown hh (by omega) fH rfl dX9_token_1 ?_
  refine lv_iload_n hx hb dX9_token_4 rfl (lv_at hl 1 rfl) ?_
  refine mm_V0r (As := [.int d]) (rest := []) hx hb hml hown hE hl.1 hh (kc_X9_90 hE.2.1 ⟨Nat.le_of_ble_eq_true rfl, Nat.le_of_ble_eq_true rfl⟩) (c_X0_holds l Γ b M mem (nd := nd) (d := d) (by omega) fC) rfl (by omega) fC rfl rfl (Nat.le_of_ble_eq_true rfl) dX9_token_5 rfl rfl (fun H locs hh => ?_)
  refine nn_bne (tgt := 21) hx hb dX9_token_8 (by decide) (fun h1 => ?_) (fun h1 => ?_)
  ·
    exact (no_tf h1 hdn).elim
  ·
    exact mx_thS_IOB hx hb hlst hown hE hh hnt hml hl.1 (hE.2.2.1.2.1 (RX9, 124, "no such document") (List.mem_of_getElem? (i := 4) rfl)) dX9_token_11 dX9_token_14 dX9_token_15 dX9_token_17 dX9_token_20 (Nat.le_of_ble_eq_true rfl) (Nat.le_of_ble_eq_true rfl) (Nat.le_of_ble_eq_true rfl) (Nat.le_of_ble_eq_true rfl) hlocks
set_option maxHeartbeats 4000000 in
set_option maxRecDepth 100000 in
/-- yX9_token throws java/lang/IllegalArgumentException -/
theorem x_X9_token_2 (l : Launch) (hlst : l.stackTraces = false) (Γ : Gm) (b M : Nat) (mem : Nat → va_E) {nd d : Nat} {v0 v1 v2 v3 : UInt32}  (hM : 138 ≤ M) (fH : mem 0 = .inr (8, [.ref (b + 1), .ref (b + 72), .ref (b + 75), .ref (b + 78), .ref (b + 80), .ref (b + 91), .ref (b + 93), .ref (b + 96), .ref (b + 109)])) (fC : mem 1 = .inr (0, [.ref (b + 2), .ref (b + 19), .ref (b + 20), .ref (b + 37), .ref (b + 38), .int (nI nd)])) (hnd : nd ≤ 16) (hd : d < nd) (h4 : (okF v0 && okF v1 && okF v2 && okF v3) = false) : Cx l yX9_token (.code yX9_token cX9_token 7 (some .int)) ({ frames := 6, cells := 1, slots := 6, locals := 90 } : Room) Γ b M [.ref (b + 0), .int (nI d), .float v0, .float v1, .float v2, .float v3] mem "java/lang/IllegalArgumentException" := by
  refine mx_enter (cc := cX9_token) (by decide) (Nat.le_of_ble_eq_true rfl) ?_
  intro p e s m args below meth c ls hx hb hml hown hr hlocks hname hnt hE hh hl
  have hl : lv_has ls 7 [(0, .ref (b + 0)), (1, .int (nI d)), (2, .float v0), (3, .float v1), (4, .float v2), (5, .float v3)] := hl
  refine lv_aload_n hx hb dX9_token_0 rfl (lv_at hl 0 rfl) ?_
  refine gf_X9_collection hx hb hE hown hh (by omega) fH rfl dX9_token_1 ?_
  refine lv_iload_n hx hb dX9_token_4 rfl (lv_at hl 1 rfl) ?_
  refine mm_V0r (As := [.int (nI d)]) (rest := []) hx hb hml hown hE hl.1 hh (kc_X9_90 hE.2.1 ⟨Nat.le_of_ble_eq_true rfl, Nat.le_of_ble_eq_true rfl⟩) (c_X0_holds l Γ b M mem (nd := nd) (d := (nI d)) (by omega) fC) rfl (by omega) fC rfl rfl (Nat.le_of_ble_eq_true rfl) dX9_token_5 rfl rfl (fun H locs hh => ?_)
  refine nn_bne (tgt := 21) hx hb dX9_token_8 (by decide) (fun h1 => ?_) (fun h1 => ?_)
  ·
    refine lv_fload_n hx hb dX9_token_21 rfl (lv_at hl 2 rfl) ?_
    refine lv_fload_n hx hb dX9_token_22 rfl (lv_at hl 3 rfl) ?_
    refine lv_fload hx hb dX9_token_23 (lv_at hl 4 rfl) ?_
    refine lv_fload hx hb dX9_token_25 (lv_at hl 5 rfl) ?_
    refine mm_S0r (As := [.float v0, .float v1, .float v2, .float v3]) (rest := []) hx hb hml hown hE hl.1 hh (kc_X9_126 hE.2.1 ⟨Nat.le_of_ble_eq_true rfl, Nat.le_of_ble_eq_true rfl⟩) (c_X9_areAllowed l Γ b M mem (v0 := v0) (v1 := v1) (v2 := v2) (v3 := v3)) rfl rfl (Nat.le_of_ble_eq_true rfl) dX9_token_27 rfl rfl (fun H locs hh => ?_)
    refine nn_bne (tgt := 43) hx hb dX9_token_30 (by decide) (fun h2 => ?_) (fun h2 => ?_)
    ·
      exact (no_tf h2 h4).elim
    ·
      exact mx_thS_IAE hx hb hlst hown hE hh hnt hml hl.1 (hE.2.2.1.2.1 (RX9, 130, "a number will not do") (List.mem_of_getElem? (i := 5) rfl)) dX9_token_33 dX9_token_36 dX9_token_37 dX9_token_39 dX9_token_42 (Nat.le_of_ble_eq_true rfl) (Nat.le_of_ble_eq_true rfl) (Nat.le_of_ble_eq_true rfl) (Nat.le_of_ble_eq_true rfl) hlocks
  ·
    exact (no_tf (inR_y hd (by omega)) h1).elim
set_option maxHeartbeats 4000000 in
set_option maxRecDepth 100000 in
/-- yX9_token throws java/lang/IllegalStateException -/
theorem x_X9_token_3 (l : Launch) (hlst : l.stackTraces = false) (Γ : Gm) (b M : Nat) (mem : Nat → va_E) {nd d : Nat} {tz : Nat → Nat} {v0 v1 v2 v3 : UInt32}  (hM : 138 ≤ M) (fH : mem 0 = .inr (8, [.ref (b + 1), .ref (b + 72), .ref (b + 75), .ref (b + 78), .ref (b + 80), .ref (b + 91), .ref (b + 93), .ref (b + 96), .ref (b + 109)])) (fC : mem 1 = .inr (0, [.ref (b + 2), .ref (b + 19), .ref (b + 20), .ref (b + 37), .ref (b + 38), .int (nI nd)])) (fTo : mem 37 = aR Γ 6 16 (fun i => some (b + (40 + 2 * i)))) (ftz : ∀ z9, z9 < 16 → mem (40 + 2 * z9) = .inr (6, [.ref (b + (40 + 2 * z9 + 1)), .int (nI 4), .int (nI (tz z9))])) (hnd : nd ≤ 16) (hd : d < nd) (h4 : (okF v0 && okF v1 && okF v2 && okF v3) = true) (htd : tz d = 4) : Cx l yX9_token (.code yX9_token cX9_token 7 (some .int)) ({ frames := 6, cells := 1, slots := 6, locals := 90 } : Room) Γ b M [.ref (b + 0), .int (nI d), .float v0, .float v1, .float v2, .float v3] mem "java/lang/IllegalStateException" := by
  refine mx_enter (cc := cX9_token) (by decide) (Nat.le_of_ble_eq_true rfl) ?_
  intro p e s m args below meth c ls hx hb hml hown hr hlocks hname hnt hE hh hl
  have hl : lv_has ls 7 [(0, .ref (b + 0)), (1, .int (nI d)), (2, .float v0), (3, .float v1), (4, .float v2), (5, .float v3)] := hl
  refine lv_aload_n hx hb dX9_token_0 rfl (lv_at hl 0 rfl) ?_
  refine gf_X9_collection hx hb hE hown hh (by omega) fH rfl dX9_token_1 ?_
  refine lv_iload_n hx hb dX9_token_4 rfl (lv_at hl 1 rfl) ?_
  refine mm_V0r (As := [.int (nI d)]) (rest := []) hx hb hml hown hE hl.1 hh (kc_X9_90 hE.2.1 ⟨Nat.le_of_ble_eq_true rfl, Nat.le_of_ble_eq_true rfl⟩) (c_X0_holds l Γ b M mem (nd := nd) (d := (nI d)) (by omega) fC) rfl (by omega) fC rfl rfl (Nat.le_of_ble_eq_true rfl) dX9_token_5 rfl rfl (fun H locs hh => ?_)
  refine nn_bne (tgt := 21) hx hb dX9_token_8 (by decide) (fun h1 => ?_) (fun h1 => ?_)
  ·
    refine lv_fload_n hx hb dX9_token_21 rfl (lv_at hl 2 rfl) ?_
    refine lv_fload_n hx hb dX9_token_22 rfl (lv_at hl 3 rfl) ?_
    refine lv_fload hx hb dX9_token_23 (lv_at hl 4 rfl) ?_
    refine lv_fload hx hb dX9_token_25 (lv_at hl 5 rfl) ?_
    refine mm_S0r (As := [.float v0, .float v1, .float v2, .float v3]) (rest := []) hx hb hml hown hE hl.1 hh (kc_X9_126 hE.2.1 ⟨Nat.le_of_ble_eq_true rfl, Nat.le_of_ble_eq_true rfl⟩) (c_X9_areAllowed l Γ b M mem (v0 := v0) (v1 := v1) (v2 := v2) (v3 := v3)) rfl rfl (Nat.le_of_ble_eq_true rfl) dX9_token_27 rfl rfl (fun H locs hh => ?_)
    refine nn_bne (tgt := 43) hx hb dX9_token_30 (by decide) (fun h2 => ?_) (fun h2 => ?_)
    ·
      refine lv_aload_n hx hb dX9_token_43 rfl (lv_at hl 0 rfl) ?_
      refine gf_X9_collection hx hb hE hown hh (by omega) fH rfl dX9_token_44 ?_
      refine lv_iload_n hx hb dX9_token_47 rfl (lv_at hl 1 rfl) ?_
      refine mm_V0r (As := [.int (nI d)]) (rest := []) hx hb hml hown hE hl.1 hh (kc_X9_132 hE.2.1 ⟨Nat.le_of_ble_eq_true rfl, Nat.le_of_ble_eq_true rfl⟩) (c_X0_tokensOf l Γ b M mem (nd := nd) (d := d) (by omega) fC fTo (by omega)) rfl (by omega) fC rfl rfl (Nat.le_of_ble_eq_true rfl) dX9_token_48 rfl rfl (fun H locs hh => ?_)
      refine lv_astore (lv' := [(6, .ref (b + (40 + 2 * d))), (0, .ref (b + 0)), (1, .int (nI d)), (2, .float v0), (3, .float v1), (4, .float v2), (5, .float v3)]) hx hb dX9_token_51 hl (by decide) rfl (fun ls hl => ?_)
      refine lv_aload hx hb dX9_token_53 (lv_at hl 0 rfl) ?_
      refine mm_V0r (As := []) (rest := []) hx hb hml hown hE hl.1 hh (kc_X9_136 hE.2.1 ⟨Nat.le_of_ble_eq_true rfl, Nat.le_of_ble_eq_true rfl⟩) (c_X7_isFull l Γ b M mem (a := 40 + 2 * d) (lim := 4) (sz := tz d) (by omega) (ftz d (by omega)) (by omega) (by omega)) rfl (by omega) (ftz d (by omega)) rfl rfl (Nat.le_of_ble_eq_true rfl) dX9_token_55 rfl rfl (fun H locs hh => ?_)
      refine nn_beq (tgt := 71) hx hb dX9_token_58 (by decide) (fun h3 => ?_) (fun h3 => ?_)
      ·
        exact absurd (of_decide_eq_false h3) (by omega)
      ·
        exact mx_thS_ISE hx hb hlst hown hE hh hnt hml hl.1 (hE.2.2.1.2.1 (RX9, 137, "the document has 4 tokens") (List.mem_of_getElem? (i := 6) rfl)) dX9_token_61 dX9_token_64 dX9_token_65 dX9_token_67 dX9_token_70 (Nat.le_of_ble_eq_true rfl) (Nat.le_of_ble_eq_true rfl) (Nat.le_of_ble_eq_true rfl) (Nat.le_of_ble_eq_true rfl) hlocks
    ·
      exact (no_tf h4 h2).elim
  ·
    exact (no_tf (inR_y hd (by omega)) h1).elim
set_option maxHeartbeats 4000000 in
set_option maxRecDepth 100000 in
/-- yX9_centroid throws java/lang/IllegalArgumentException -/
theorem x_X9_centroid_1 (l : Launch) (hlst : l.stackTraces = false) (Γ : Gm) (b M : Nat) (mem : Nat → va_E) {v0 v1 v2 v3 : UInt32}  (hM : 0 < M) (h4 : (okF v0 && okF v1 && okF v2 && okF v3) = false) : Cx l yX9_centroid (.code yX9_centroid cX9_centroid 5 (some .int)) ({ frames := 6, cells := 1, slots := 6, locals := 90 } : Room) Γ b M [.ref (b + 0), .float v0, .float v1, .float v2, .float v3] mem "java/lang/IllegalArgumentException" := by
  refine mx_enter (cc := cX9_centroid) (by decide) (Nat.le_of_ble_eq_true rfl) ?_
  intro p e s m args below meth c ls hx hb hml hown hr hlocks hname hnt hE hh hl
  have hl : lv_has ls 5 [(0, .ref (b + 0)), (1, .float v0), (2, .float v1), (3, .float v2), (4, .float v3)] := hl
  refine lv_fload_n hx hb dX9_centroid_0 rfl (lv_at hl 1 rfl) ?_
  refine lv_fload_n hx hb dX9_centroid_1 rfl (lv_at hl 2 rfl) ?_
  refine lv_fload_n hx hb dX9_centroid_2 rfl (lv_at hl 3 rfl) ?_
  refine lv_fload hx hb dX9_centroid_3 (lv_at hl 4 rfl) ?_
  refine mm_S0r (As := [.float v0, .float v1, .float v2, .float v3]) (rest := []) hx hb hml hown hE hl.1 hh (kc_X9_126 hE.2.1 ⟨Nat.le_of_ble_eq_true rfl, Nat.le_of_ble_eq_true rfl⟩) (c_X9_areAllowed l Γ b M mem (v0 := v0) (v1 := v1) (v2 := v2) (v3 := v3)) rfl rfl (Nat.le_of_ble_eq_true rfl) dX9_centroid_5 rfl rfl (fun H locs hh => ?_)
  refine nn_bne (tgt := 21) hx hb dX9_centroid_8 (by decide) (fun h1 => ?_) (fun h1 => ?_)
  ·
    exact (no_tf h1 h4).elim
  ·
    exact mx_thS_IAE hx hb hlst hown hE hh hnt hml hl.1 (hE.2.2.1.2.1 (RX9, 130, "a number will not do") (List.mem_of_getElem? (i := 5) rfl)) dX9_centroid_11 dX9_centroid_14 dX9_centroid_15 dX9_centroid_17 dX9_centroid_20 (Nat.le_of_ble_eq_true rfl) (Nat.le_of_ble_eq_true rfl) (Nat.le_of_ble_eq_true rfl) (Nat.le_of_ble_eq_true rfl) hlocks
set_option maxHeartbeats 4000000 in
set_option maxRecDepth 100000 in
/-- yX9_centroid throws java/lang/IllegalStateException -/
theorem x_X9_centroid_2 (l : Launch) (hlst : l.stackTraces = false) (Γ : Gm) (b M : Nat) (mem : Nat → va_E) {nd cz : Nat} {v0 v1 v2 v3 : UInt32}  (hM : 138 ≤ M) (fH : mem 0 = .inr (8, [.ref (b + 1), .ref (b + 72), .ref (b + 75), .ref (b + 78), .ref (b + 80), .ref (b + 91), .ref (b + 93), .ref (b + 96), .ref (b + 109)])) (fC : mem 1 = .inr (0, [.ref (b + 2), .ref (b + 19), .ref (b + 20), .ref (b + 37), .ref (b + 38), .int (nI nd)])) (fZ : mem 38 = .inr (6, [.ref (b + 39), .int (nI 4), .int (nI cz)])) (h4 : (okF v0 && okF v1 && okF v2 && okF v3) = true) (hcz : cz = 4) : Cx l yX9_centroid (.code yX9_centroid cX9_centroid 5 (some .int)) ({ frames := 6, cells := 1, slots := 6, locals := 90 } : Room) Γ b M [.ref (b + 0), .float v0, .float v1, .float v2, .float v3] mem "java/lang/IllegalStateException" := by
  refine mx_enter (cc := cX9_centroid) (by decide) (Nat.le_of_ble_eq_true rfl) ?_
  intro p e s m args below meth c ls hx hb hml hown hr hlocks hname hnt hE hh hl
  have hl : lv_has ls 5 [(0, .ref (b + 0)), (1, .float v0), (2, .float v1), (3, .float v2), (4, .float v3)] := hl
  refine lv_fload_n hx hb dX9_centroid_0 rfl (lv_at hl 1 rfl) ?_
  refine lv_fload_n hx hb dX9_centroid_1 rfl (lv_at hl 2 rfl) ?_
  refine lv_fload_n hx hb dX9_centroid_2 rfl (lv_at hl 3 rfl) ?_
  refine lv_fload hx hb dX9_centroid_3 (lv_at hl 4 rfl) ?_
  refine mm_S0r (As := [.float v0, .float v1, .float v2, .float v3]) (rest := []) hx hb hml hown hE hl.1 hh (kc_X9_126 hE.2.1 ⟨Nat.le_of_ble_eq_true rfl, Nat.le_of_ble_eq_true rfl⟩) (c_X9_areAllowed l Γ b M mem (v0 := v0) (v1 := v1) (v2 := v2) (v3 := v3)) rfl rfl (Nat.le_of_ble_eq_true rfl) dX9_centroid_5 rfl rfl (fun H locs hh => ?_)
  refine nn_bne (tgt := 21) hx hb dX9_centroid_8 (by decide) (fun h1 => ?_) (fun h1 => ?_)
  ·
    refine lv_aload_n hx hb dX9_centroid_21 rfl (lv_at hl 0 rfl) ?_
    refine gf_X9_collection hx hb hE hown hh (by omega) fH rfl dX9_centroid_22 ?_
    refine mm_V0r (As := []) (rest := []) hx hb hml hown hE hl.1 hh (kc_X9_143 hE.2.1 ⟨Nat.le_of_ble_eq_true rfl, Nat.le_of_ble_eq_true rfl⟩) (c_X0_centroidRow l Γ b M mem (nd := nd) (by omega) fC) rfl (by omega) fC rfl rfl (Nat.le_of_ble_eq_true rfl) dX9_centroid_25 rfl rfl (fun H locs hh => ?_)
    refine mm_V0r (As := []) (rest := []) hx hb hml hown hE hl.1 hh (kc_X9_136 hE.2.1 ⟨Nat.le_of_ble_eq_true rfl, Nat.le_of_ble_eq_true rfl⟩) (c_X7_isFull l Γ b M mem (a := 38) (lim := 4) (sz := cz) (by omega) fZ (by omega) (by omega)) rfl (by omega) fZ rfl rfl (Nat.le_of_ble_eq_true rfl) dX9_centroid_28 rfl rfl (fun H locs hh => ?_)
    refine nn_beq (tgt := 44) hx hb dX9_centroid_31 (by decide) (fun h2 => ?_) (fun h2 => ?_)
    ·
      exact absurd (of_decide_eq_false h2) (by omega)
    ·
      exact mx_thS_ISE hx hb hlst hown hE hh hnt hml hl.1 (hE.2.2.1.2.1 (RX9, 147, "there are 4 centroids") (List.mem_of_getElem? (i := 7) rfl)) dX9_centroid_34 dX9_centroid_37 dX9_centroid_38 dX9_centroid_40 dX9_centroid_43 (Nat.le_of_ble_eq_true rfl) (Nat.le_of_ble_eq_true rfl) (Nat.le_of_ble_eq_true rfl) (Nat.le_of_ble_eq_true rfl) hlocks
  ·
    exact (no_tf h4 h1).elim
set_option maxHeartbeats 4000000 in
set_option maxRecDepth 100000 in
/-- yX9_word throws java/lang/IndexOutOfBoundsException -/
theorem x_X9_word_1 (l : Launch) (hlst : l.stackTraces = false) (Γ : Gm) (b M : Nat) (mem : Nat → va_E) {t : Int32} (hM : 0 < M) (htn : inR t 12 = false) : Cx l yX9_word (.code yX9_word cX9_word 2 (some .int)) ({ frames := 6, cells := 1, slots := 6, locals := 90 } : Room) Γ b M [.ref (b + 0), .int t] mem "java/lang/IndexOutOfBoundsException" := by
  refine mx_enter (cc := cX9_word) (by decide) (Nat.le_of_ble_eq_true rfl) ?_
  intro p e s m args below meth c ls hx hb hml hown hr hlocks hname hnt hE hh hl
  have hl : lv_has ls 2 [(0, .ref (b + 0)), (1, .int t)] := hl
  refine lv_iload_n hx hb dX9_word_0 rfl (lv_at hl 1 rfl) ?_
  refine mm_S0r (As := [.int t]) (rest := []) hx hb hml hown hE hl.1 hh (kc_X9_94 hE.2.1 ⟨Nat.le_of_ble_eq_true rfl, Nat.le_of_ble_eq_true rfl⟩) (c_X9_isTerm l Γ b M mem (t := t)) rfl rfl (Nat.le_of_ble_eq_true rfl) dX9_word_1 rfl rfl (fun H locs hh => ?_)
  refine nn_bne (tgt := 17) hx hb dX9_word_4 (by decide) (fun h1 => ?_) (fun h1 => ?_)
  ·
    exact (no_tf h1 htn).elim
  ·
    exact mx_thS_IOB hx hb hlst hown hE hh hnt hml hl.1 (hE.2.2.1.2.1 (RX9, 153, "no such term") (List.mem_of_getElem? (i := 8) rfl)) dX9_word_7 dX9_word_10 dX9_word_11 dX9_word_13 dX9_word_16 (Nat.le_of_ble_eq_true rfl) (Nat.le_of_ble_eq_true rfl) (Nat.le_of_ble_eq_true rfl) (Nat.le_of_ble_eq_true rfl) hlocks
set_option maxHeartbeats 4000000 in
set_option maxRecDepth 100000 in
/-- yX9_word throws java/lang/IllegalArgumentException -/
theorem x_X9_word_2 (l : Launch) (hlst : l.stackTraces = false) (Γ : Gm) (b M : Nat) (mem : Nat → va_E) {t wz : Nat} {wm : Nat → Nat} (hM : 138 ≤ M) (fH : mem 0 = .inr (8, [.ref (b + 1), .ref (b + 72), .ref (b + 75), .ref (b + 78), .ref (b + 80), .ref (b + 91), .ref (b + 93), .ref (b + 96), .ref (b + 109)])) (fW : mem 72 = .inr (5, [.ref (b + 73), .ref (b + 74), .int (nI wz)])) (fW1 : mem 73 = aN Γ 4 wm) (ht : t < 12) (hwz : wz ≤ 4) (hyes : hasT (fun i => nI (wm i)) (nI t) wz = true) : Cx l yX9_word (.code yX9_word cX9_word 2 (some .int)) ({ frames := 6, cells := 1, slots := 6, locals := 90 } : Room) Γ b M [.ref (b + 0), .int (nI t)] mem "java/lang/IllegalArgumentException" := by
  refine mx_enter (cc := cX9_word) (by decide) (Nat.le_of_ble_eq_true rfl) ?_
  intro p e s m args below meth c ls hx hb hml hown hr hlocks hname hnt hE hh hl
  have hl : lv_has ls 2 [(0, .ref (b + 0)), (1, .int (nI t))] := hl
  refine lv_iload_n hx hb dX9_word_0 rfl (lv_at hl 1 rfl) ?_
  refine mm_S0r (As := [.int (nI t)]) (rest := []) hx hb hml hown hE hl.1 hh (kc_X9_94 hE.2.1 ⟨Nat.le_of_ble_eq_true rfl, Nat.le_of_ble_eq_true rfl⟩) (c_X9_isTerm l Γ b M mem (t := (nI t))) rfl rfl (Nat.le_of_ble_eq_true rfl) dX9_word_1 rfl rfl (fun H locs hh => ?_)
  refine nn_bne (tgt := 17) hx hb dX9_word_4 (by decide) (fun h1 => ?_) (fun h1 => ?_)
  ·
    refine lv_aload_n hx hb dX9_word_17 rfl (lv_at hl 0 rfl) ?_
    refine gf_X9_words hx hb hE hown hh (by omega) fH rfl dX9_word_18 ?_
    refine lv_iload_n hx hb dX9_word_21 rfl (lv_at hl 1 rfl) ?_
    refine mm_V0r (As := [.int (nI t)]) (rest := []) hx hb hml hown hE hl.1 hh (kc_X9_155 hE.2.1 ⟨Nat.le_of_ble_eq_true rfl, Nat.le_of_ble_eq_true rfl⟩) (c_X6_holds l Γ b M mem (a := 72) (sz := wz) (tm := wm) (t := (nI t)) (by omega) fW fW1 (by omega)) rfl (by omega) fW rfl rfl (Nat.le_of_ble_eq_true rfl) dX9_word_22 rfl rfl (fun H locs hh => ?_)
    refine nn_beq (tgt := 38) hx hb dX9_word_25 (by decide) (fun h2 => ?_) (fun h2 => ?_)
    ·
      exact (no_tf hyes h2).elim
    ·
      exact mx_thS_IAE hx hb hlst hown hE hh hnt hml hl.1 (hE.2.2.1.2.1 (RX9, 156, "the word is there") (List.mem_of_getElem? (i := 9) rfl)) dX9_word_28 dX9_word_31 dX9_word_32 dX9_word_34 dX9_word_37 (Nat.le_of_ble_eq_true rfl) (Nat.le_of_ble_eq_true rfl) (Nat.le_of_ble_eq_true rfl) (Nat.le_of_ble_eq_true rfl) hlocks
  ·
    exact (no_tf (inR_y ht (by decide)) h1).elim
set_option maxHeartbeats 4000000 in
set_option maxRecDepth 100000 in
/-- yX9_word throws java/lang/IllegalStateException -/
theorem x_X9_word_3 (l : Launch) (hlst : l.stackTraces = false) (Γ : Gm) (b M : Nat) (mem : Nat → va_E) {t wz : Nat} {wm : Nat → Nat} (hM : 138 ≤ M) (fH : mem 0 = .inr (8, [.ref (b + 1), .ref (b + 72), .ref (b + 75), .ref (b + 78), .ref (b + 80), .ref (b + 91), .ref (b + 93), .ref (b + 96), .ref (b + 109)])) (fW : mem 72 = .inr (5, [.ref (b + 73), .ref (b + 74), .int (nI wz)])) (fW1 : mem 73 = aN Γ 4 wm) (ht : t < 12) (hwz : wz = 4) (hno : hasT (fun i => nI (wm i)) (nI t) wz = false) : Cx l yX9_word (.code yX9_word cX9_word 2 (some .int)) ({ frames := 6, cells := 1, slots := 6, locals := 90 } : Room) Γ b M [.ref (b + 0), .int (nI t)] mem "java/lang/IllegalStateException" := by
  refine mx_enter (cc := cX9_word) (by decide) (Nat.le_of_ble_eq_true rfl) ?_
  intro p e s m args below meth c ls hx hb hml hown hr hlocks hname hnt hE hh hl
  have hl : lv_has ls 2 [(0, .ref (b + 0)), (1, .int (nI t))] := hl
  refine lv_iload_n hx hb dX9_word_0 rfl (lv_at hl 1 rfl) ?_
  refine mm_S0r (As := [.int (nI t)]) (rest := []) hx hb hml hown hE hl.1 hh (kc_X9_94 hE.2.1 ⟨Nat.le_of_ble_eq_true rfl, Nat.le_of_ble_eq_true rfl⟩) (c_X9_isTerm l Γ b M mem (t := (nI t))) rfl rfl (Nat.le_of_ble_eq_true rfl) dX9_word_1 rfl rfl (fun H locs hh => ?_)
  refine nn_bne (tgt := 17) hx hb dX9_word_4 (by decide) (fun h1 => ?_) (fun h1 => ?_)
  ·
    refine lv_aload_n hx hb dX9_word_17 rfl (lv_at hl 0 rfl) ?_
    refine gf_X9_words hx hb hE hown hh (by omega) fH rfl dX9_word_18 ?_
    refine lv_iload_n hx hb dX9_word_21 rfl (lv_at hl 1 rfl) ?_
    refine mm_V0r (As := [.int (nI t)]) (rest := []) hx hb hml hown hE hl.1 hh (kc_X9_155 hE.2.1 ⟨Nat.le_of_ble_eq_true rfl, Nat.le_of_ble_eq_true rfl⟩) (c_X6_holds l Γ b M mem (a := 72) (sz := wz) (tm := wm) (t := (nI t)) (by omega) fW fW1 (by omega)) rfl (by omega) fW rfl rfl (Nat.le_of_ble_eq_true rfl) dX9_word_22 rfl rfl (fun H locs hh => ?_)
    refine nn_beq (tgt := 38) hx hb dX9_word_25 (by decide) (fun h2 => ?_) (fun h2 => ?_)
    ·
      refine lv_aload_n hx hb dX9_word_38 rfl (lv_at hl 0 rfl) ?_
      refine gf_X9_words hx hb hE hown hh (by omega) fH rfl dX9_word_39 ?_
      refine mm_V0r (As := []) (rest := []) hx hb hml hown hE hl.1 hh (kc_X9_158 hE.2.1 ⟨Nat.le_of_ble_eq_true rfl, Nat.le_of_ble_eq_true rfl⟩) (c_X6_isFull l Γ b M mem (a := 72) (sz := wz) (by omega) fW (by omega)) rfl (by omega) fW rfl rfl (Nat.le_of_ble_eq_true rfl) dX9_word_42 rfl rfl (fun H locs hh => ?_)
      refine nn_beq (tgt := 58) hx hb dX9_word_45 (by decide) (fun h3 => ?_) (fun h3 => ?_)
      ·
        exact absurd (of_decide_eq_false h3) (by omega)
      ·
        exact mx_thS_ISE hx hb hlst hown hE hh hnt hml hl.1 (hE.2.2.1.2.1 (RX9, 159, "there are 4 words") (List.mem_of_getElem? (i := 10) rfl)) dX9_word_48 dX9_word_51 dX9_word_52 dX9_word_54 dX9_word_57 (Nat.le_of_ble_eq_true rfl) (Nat.le_of_ble_eq_true rfl) (Nat.le_of_ble_eq_true rfl) (Nat.le_of_ble_eq_true rfl) hlocks
    ·
      exact (no_tf h2 hno).elim
  ·
    exact (no_tf (inR_y ht (by decide)) h1).elim
set_option maxHeartbeats 4000000 in
set_option maxRecDepth 100000 in
/-- yX9_impact throws java/lang/IndexOutOfBoundsException -/
theorem x_X9_impact_1 (l : Launch) (hlst : l.stackTraces = false) (Γ : Gm) (b M : Nat) (mem : Nat → va_E) {t x : Int32} (hM : 0 < M) (htn : inR t 12 = false) : Cx l yX9_impact (.code yX9_impact cX9_impact 3 (some .int)) ({ frames := 6, cells := 1, slots := 6, locals := 90 } : Room) Γ b M [.ref (b + 0), .int t, .int x] mem "java/lang/IndexOutOfBoundsException" := by
  refine mx_enter (cc := cX9_impact) (by decide) (Nat.le_of_ble_eq_true rfl) ?_
  intro p e s m args below meth c ls hx hb hml hown hr hlocks hname hnt hE hh hl
  have hl : lv_has ls 3 [(0, .ref (b + 0)), (1, .int t), (2, .int x)] := hl
  refine lv_iload_n hx hb dX9_impact_0 rfl (lv_at hl 1 rfl) ?_
  refine mm_S0r (As := [.int t]) (rest := []) hx hb hml hown hE hl.1 hh (kc_X9_94 hE.2.1 ⟨Nat.le_of_ble_eq_true rfl, Nat.le_of_ble_eq_true rfl⟩) (c_X9_isTerm l Γ b M mem (t := t)) rfl rfl (Nat.le_of_ble_eq_true rfl) dX9_impact_1 rfl rfl (fun H locs hh => ?_)
  refine nn_bne (tgt := 17) hx hb dX9_impact_4 (by decide) (fun h1 => ?_) (fun h1 => ?_)
  ·
    exact (no_tf h1 htn).elim
  ·
    exact mx_thS_IOB hx hb hlst hown hE hh hnt hml hl.1 (hE.2.2.1.2.1 (RX9, 153, "no such term") (List.mem_of_getElem? (i := 8) rfl)) dX9_impact_7 dX9_impact_10 dX9_impact_11 dX9_impact_13 dX9_impact_16 (Nat.le_of_ble_eq_true rfl) (Nat.le_of_ble_eq_true rfl) (Nat.le_of_ble_eq_true rfl) (Nat.le_of_ble_eq_true rfl) hlocks
set_option maxHeartbeats 4000000 in
set_option maxRecDepth 100000 in
/-- yX9_impact throws java/lang/IllegalArgumentException -/
theorem x_X9_impact_2 (l : Launch) (hlst : l.stackTraces = false) (Γ : Gm) (b M : Nat) (mem : Nat → va_E) {t iz : Nat} {x : Int32} {im : Nat → Nat} (hM : 138 ≤ M) (fH : mem 0 = .inr (8, [.ref (b + 1), .ref (b + 72), .ref (b + 75), .ref (b + 78), .ref (b + 80), .ref (b + 91), .ref (b + 93), .ref (b + 96), .ref (b + 109)])) (fI : mem 75 = .inr (5, [.ref (b + 76), .ref (b + 77), .int (nI iz)])) (fI1 : mem 76 = aN Γ 4 im) (ht : t < 12) (hiz : iz ≤ 4) (hbad : hasT (fun i => nI (im i)) (nI t) iz = false → ¬ x < nI 1 → ¬ x ≤ nI 100) : Cx l yX9_impact (.code yX9_impact cX9_impact 3 (some .int)) ({ frames := 6, cells := 1, slots := 6, locals := 90 } : Room) Γ b M [.ref (b + 0), .int (nI t), .int x] mem "java/lang/IllegalArgumentException" := by
  refine mx_enter (cc := cX9_impact) (by decide) (Nat.le_of_ble_eq_true rfl) ?_
  intro p e s m args below meth c ls hx hb hml hown hr hlocks hname hnt hE hh hl
  have hl : lv_has ls 3 [(0, .ref (b + 0)), (1, .int (nI t)), (2, .int x)] := hl
  refine lv_iload_n hx hb dX9_impact_0 rfl (lv_at hl 1 rfl) ?_
  refine mm_S0r (As := [.int (nI t)]) (rest := []) hx hb hml hown hE hl.1 hh (kc_X9_94 hE.2.1 ⟨Nat.le_of_ble_eq_true rfl, Nat.le_of_ble_eq_true rfl⟩) (c_X9_isTerm l Γ b M mem (t := (nI t))) rfl rfl (Nat.le_of_ble_eq_true rfl) dX9_impact_1 rfl rfl (fun H locs hh => ?_)
  refine nn_bne (tgt := 17) hx hb dX9_impact_4 (by decide) (fun h1 => ?_) (fun h1 => ?_)
  ·
    refine lv_aload_n hx hb dX9_impact_17 rfl (lv_at hl 0 rfl) ?_
    refine gf_X9_impacts hx hb hE hown hh (by omega) fH rfl dX9_impact_18 ?_
    refine lv_iload_n hx hb dX9_impact_21 rfl (lv_at hl 1 rfl) ?_
    refine mm_V0r (As := [.int (nI t)]) (rest := []) hx hb hml hown hE hl.1 hh (kc_X9_155 hE.2.1 ⟨Nat.le_of_ble_eq_true rfl, Nat.le_of_ble_eq_true rfl⟩) (c_X6_holds l Γ b M mem (a := 75) (sz := iz) (tm := im) (t := (nI t)) (by omega) fI fI1 (by omega)) rfl (by omega) fI rfl rfl (Nat.le_of_ble_eq_true rfl) dX9_impact_22 rfl rfl (fun H locs hh => ?_)
    refine nn_bne (tgt := 39) hx hb dX9_impact_25 (by decide) (fun h2 => ?_) (fun h2 => ?_)
    ·
      exact mx_thS_IAE hx hb hlst hown hE hh hnt hml hl.1 (hE.2.2.1.2.1 (RX9, 166, "the impact is there, or its weight will not do") (List.mem_of_getElem? (i := 11) rfl)) dX9_impact_39 dX9_impact_42 dX9_impact_43 dX9_impact_45 dX9_impact_48 (Nat.le_of_ble_eq_true rfl) (Nat.le_of_ble_eq_true rfl) (Nat.le_of_ble_eq_true rfl) (Nat.le_of_ble_eq_true rfl) hlocks
    ·
      have g1 := hbad h2
      refine lv_iload_n hx hb dX9_impact_28 rfl (lv_at hl 2 rfl) ?_
      refine lv_iconst (v := (nI 1)) hx hb dX9_impact_29 (by decide) ?_
      refine lv_icmp_lt (tgt := 39) hx hb dX9_impact_30 (by decide) (fun h3 => ?_) (fun h3 => ?_)
      ·
        exact mx_thS_IAE hx hb hlst hown hE hh hnt hml hl.1 (hE.2.2.1.2.1 (RX9, 166, "the impact is there, or its weight will not do") (List.mem_of_getElem? (i := 11) rfl)) dX9_impact_39 dX9_impact_42 dX9_impact_43 dX9_impact_45 dX9_impact_48 (Nat.le_of_ble_eq_true rfl) (Nat.le_of_ble_eq_true rfl) (Nat.le_of_ble_eq_true rfl) (Nat.le_of_ble_eq_true rfl) hlocks
      ·
        have g2 := g1 h3
        refine lv_iload_n hx hb dX9_impact_33 rfl (lv_at hl 2 rfl) ?_
        refine lv_bipush (v := (nI 100)) hx hb dX9_impact_34 (by decide) ?_
        refine lv_icmp_le (tgt := 49) hx hb dX9_impact_36 (by decide) (fun h4 => ?_) (fun h4 => ?_)
        ·
          exact absurd h4 g2
        ·
          exact mx_thS_IAE hx hb hlst hown hE hh hnt hml hl.1 (hE.2.2.1.2.1 (RX9, 166, "the impact is there, or its weight will not do") (List.mem_of_getElem? (i := 11) rfl)) dX9_impact_39 dX9_impact_42 dX9_impact_43 dX9_impact_45 dX9_impact_48 (Nat.le_of_ble_eq_true rfl) (Nat.le_of_ble_eq_true rfl) (Nat.le_of_ble_eq_true rfl) (Nat.le_of_ble_eq_true rfl) hlocks
  ·
    exact (no_tf (inR_y ht (by decide)) h1).elim
set_option maxHeartbeats 4000000 in
set_option maxRecDepth 100000 in
/-- yX9_impact throws java/lang/IllegalStateException -/
theorem x_X9_impact_3 (l : Launch) (hlst : l.stackTraces = false) (Γ : Gm) (b M : Nat) (mem : Nat → va_E) {t x iz : Nat} {im : Nat → Nat} (hM : 138 ≤ M) (fH : mem 0 = .inr (8, [.ref (b + 1), .ref (b + 72), .ref (b + 75), .ref (b + 78), .ref (b + 80), .ref (b + 91), .ref (b + 93), .ref (b + 96), .ref (b + 109)])) (fI : mem 75 = .inr (5, [.ref (b + 76), .ref (b + 77), .int (nI iz)])) (fI1 : mem 76 = aN Γ 4 im) (ht : t < 12) (hiz : iz = 4) (hno : hasT (fun i => nI (im i)) (nI t) iz = false) (hx1 : 1 ≤ x ∧ x ≤ 100) : Cx l yX9_impact (.code yX9_impact cX9_impact 3 (some .int)) ({ frames := 6, cells := 1, slots := 6, locals := 90 } : Room) Γ b M [.ref (b + 0), .int (nI t), .int (nI x)] mem "java/lang/IllegalStateException" := by
  refine mx_enter (cc := cX9_impact) (by decide) (Nat.le_of_ble_eq_true rfl) ?_
  intro p e s m args below meth c ls hx hb hml hown hr hlocks hname hnt hE hh hl
  have hl : lv_has ls 3 [(0, .ref (b + 0)), (1, .int (nI t)), (2, .int (nI x))] := hl
  refine lv_iload_n hx hb dX9_impact_0 rfl (lv_at hl 1 rfl) ?_
  refine mm_S0r (As := [.int (nI t)]) (rest := []) hx hb hml hown hE hl.1 hh (kc_X9_94 hE.2.1 ⟨Nat.le_of_ble_eq_true rfl, Nat.le_of_ble_eq_true rfl⟩) (c_X9_isTerm l Γ b M mem (t := (nI t))) rfl rfl (Nat.le_of_ble_eq_true rfl) dX9_impact_1 rfl rfl (fun H locs hh => ?_)
  refine nn_bne (tgt := 17) hx hb dX9_impact_4 (by decide) (fun h1 => ?_) (fun h1 => ?_)
  ·
    refine lv_aload_n hx hb dX9_impact_17 rfl (lv_at hl 0 rfl) ?_
    refine gf_X9_impacts hx hb hE hown hh (by omega) fH rfl dX9_impact_18 ?_
    refine lv_iload_n hx hb dX9_impact_21 rfl (lv_at hl 1 rfl) ?_
    refine mm_V0r (As := [.int (nI t)]) (rest := []) hx hb hml hown hE hl.1 hh (kc_X9_155 hE.2.1 ⟨Nat.le_of_ble_eq_true rfl, Nat.le_of_ble_eq_true rfl⟩) (c_X6_holds l Γ b M mem (a := 75) (sz := iz) (tm := im) (t := (nI t)) (by omega) fI fI1 (by omega)) rfl (by omega) fI rfl rfl (Nat.le_of_ble_eq_true rfl) dX9_impact_22 rfl rfl (fun H locs hh => ?_)
    refine nn_bne (tgt := 39) hx hb dX9_impact_25 (by decide) (fun h2 => ?_) (fun h2 => ?_)
    ·
      exact (no_tf h2 hno).elim
    ·
      refine lv_iload_n hx hb dX9_impact_28 rfl (lv_at hl 2 rfl) ?_
      refine lv_iconst (v := (nI 1)) hx hb dX9_impact_29 (by decide) ?_
      refine nn_icmp_lt (tgt := 39) hx hb dX9_impact_30 (by decide) (by omega) (by omega) (fun h3 => ?_) (fun h3 => ?_)
      ·
        exact absurd h3 (by omega)
      ·
        refine lv_iload_n hx hb dX9_impact_33 rfl (lv_at hl 2 rfl) ?_
        refine lv_bipush (v := (nI 100)) hx hb dX9_impact_34 (by decide) ?_
        refine nn_icmp_le (tgt := 49) hx hb dX9_impact_36 (by decide) (by omega) (by omega) (fun h4 => ?_) (fun h4 => ?_)
        ·
          refine lv_aload_n hx hb dX9_impact_49 rfl (lv_at hl 0 rfl) ?_
          refine gf_X9_impacts hx hb hE hown hh (by omega) fH rfl dX9_impact_50 ?_
          refine mm_V0r (As := []) (rest := []) hx hb hml hown hE hl.1 hh (kc_X9_158 hE.2.1 ⟨Nat.le_of_ble_eq_true rfl, Nat.le_of_ble_eq_true rfl⟩) (c_X6_isFull l Γ b M mem (a := 75) (sz := iz) (by omega) fI (by omega)) rfl (by omega) fI rfl rfl (Nat.le_of_ble_eq_true rfl) dX9_impact_53 rfl rfl (fun H locs hh => ?_)
          refine nn_beq (tgt := 69) hx hb dX9_impact_56 (by decide) (fun h5 => ?_) (fun h5 => ?_)
          ·
            exact absurd (of_decide_eq_false h5) (by omega)
          ·
            exact mx_thS_ISE hx hb hlst hown hE hh hnt hml hl.1 (hE.2.2.1.2.1 (RX9, 168, "there are 4 impacts") (List.mem_of_getElem? (i := 12) rfl)) dX9_impact_59 dX9_impact_62 dX9_impact_63 dX9_impact_65 dX9_impact_68 (Nat.le_of_ble_eq_true rfl) (Nat.le_of_ble_eq_true rfl) (Nat.le_of_ble_eq_true rfl) (Nat.le_of_ble_eq_true rfl) hlocks
        ·
          exact absurd h4 (by omega)
  ·
    exact (no_tf (inR_y ht (by decide)) h1).elim
set_option maxHeartbeats 4000000 in
set_option maxRecDepth 100000 in
/-- yX9_vector throws java/lang/IllegalArgumentException -/
theorem x_X9_vector_1 (l : Launch) (hlst : l.stackTraces = false) (Γ : Gm) (b M : Nat) (mem : Nat → va_E) {v0 v1 v2 v3 : UInt32}  (hM : 0 < M) (h4 : (okF v0 && okF v1 && okF v2 && okF v3) = false) : Cx l yX9_vector (.code yX9_vector cX9_vector 5 (some .int)) ({ frames := 6, cells := 1, slots := 6, locals := 90 } : Room) Γ b M [.ref (b + 0), .float v0, .float v1, .float v2, .float v3] mem "java/lang/IllegalArgumentException" := by
  refine mx_enter (cc := cX9_vector) (by decide) (Nat.le_of_ble_eq_true rfl) ?_
  intro p e s m args below meth c ls hx hb hml hown hr hlocks hname hnt hE hh hl
  have hl : lv_has ls 5 [(0, .ref (b + 0)), (1, .float v0), (2, .float v1), (3, .float v2), (4, .float v3)] := hl
  refine lv_fload_n hx hb dX9_vector_0 rfl (lv_at hl 1 rfl) ?_
  refine lv_fload_n hx hb dX9_vector_1 rfl (lv_at hl 2 rfl) ?_
  refine lv_fload_n hx hb dX9_vector_2 rfl (lv_at hl 3 rfl) ?_
  refine lv_fload hx hb dX9_vector_3 (lv_at hl 4 rfl) ?_
  refine mm_S0r (As := [.float v0, .float v1, .float v2, .float v3]) (rest := []) hx hb hml hown hE hl.1 hh (kc_X9_126 hE.2.1 ⟨Nat.le_of_ble_eq_true rfl, Nat.le_of_ble_eq_true rfl⟩) (c_X9_areAllowed l Γ b M mem (v0 := v0) (v1 := v1) (v2 := v2) (v3 := v3)) rfl rfl (Nat.le_of_ble_eq_true rfl) dX9_vector_5 rfl rfl (fun H locs hh => ?_)
  refine nn_bne (tgt := 21) hx hb dX9_vector_8 (by decide) (fun h1 => ?_) (fun h1 => ?_)
  ·
    exact (no_tf h1 h4).elim
  ·
    exact mx_thS_IAE hx hb hlst hown hE hh hnt hml hl.1 (hE.2.2.1.2.1 (RX9, 130, "a number will not do") (List.mem_of_getElem? (i := 5) rfl)) dX9_vector_11 dX9_vector_14 dX9_vector_15 dX9_vector_17 dX9_vector_20 (Nat.le_of_ble_eq_true rfl) (Nat.le_of_ble_eq_true rfl) (Nat.le_of_ble_eq_true rfl) (Nat.le_of_ble_eq_true rfl) hlocks
set_option maxHeartbeats 4000000 in
set_option maxRecDepth 100000 in
/-- yX9_vector throws java/lang/IllegalStateException -/
theorem x_X9_vector_2 (l : Launch) (hlst : l.stackTraces = false) (Γ : Gm) (b M : Nat) (mem : Nat → va_E) {vz : Nat} {v0 v1 v2 v3 : UInt32}  (hM : 138 ≤ M) (fH : mem 0 = .inr (8, [.ref (b + 1), .ref (b + 72), .ref (b + 75), .ref (b + 78), .ref (b + 80), .ref (b + 91), .ref (b + 93), .ref (b + 96), .ref (b + 109)])) (fV : mem 78 = .inr (6, [.ref (b + 79), .int (nI 3), .int (nI vz)])) (h4 : (okF v0 && okF v1 && okF v2 && okF v3) = true) (hvz : vz = 3) : Cx l yX9_vector (.code yX9_vector cX9_vector 5 (some .int)) ({ frames := 6, cells := 1, slots := 6, locals := 90 } : Room) Γ b M [.ref (b + 0), .float v0, .float v1, .float v2, .float v3] mem "java/lang/IllegalStateException" := by
  refine mx_enter (cc := cX9_vector) (by decide) (Nat.le_of_ble_eq_true rfl) ?_
  intro p e s m args below meth c ls hx hb hml hown hr hlocks hname hnt hE hh hl
  have hl : lv_has ls 5 [(0, .ref (b + 0)), (1, .float v0), (2, .float v1), (3, .float v2), (4, .float v3)] := hl
  refine lv_fload_n hx hb dX9_vector_0 rfl (lv_at hl 1 rfl) ?_
  refine lv_fload_n hx hb dX9_vector_1 rfl (lv_at hl 2 rfl) ?_
  refine lv_fload_n hx hb dX9_vector_2 rfl (lv_at hl 3 rfl) ?_
  refine lv_fload hx hb dX9_vector_3 (lv_at hl 4 rfl) ?_
  refine mm_S0r (As := [.float v0, .float v1, .float v2, .float v3]) (rest := []) hx hb hml hown hE hl.1 hh (kc_X9_126 hE.2.1 ⟨Nat.le_of_ble_eq_true rfl, Nat.le_of_ble_eq_true rfl⟩) (c_X9_areAllowed l Γ b M mem (v0 := v0) (v1 := v1) (v2 := v2) (v3 := v3)) rfl rfl (Nat.le_of_ble_eq_true rfl) dX9_vector_5 rfl rfl (fun H locs hh => ?_)
  refine nn_bne (tgt := 21) hx hb dX9_vector_8 (by decide) (fun h1 => ?_) (fun h1 => ?_)
  ·
    refine lv_aload_n hx hb dX9_vector_21 rfl (lv_at hl 0 rfl) ?_
    refine gf_X9_vectors hx hb hE hown hh (by omega) fH rfl dX9_vector_22 ?_
    refine mm_V0r (As := []) (rest := []) hx hb hml hown hE hl.1 hh (kc_X9_136 hE.2.1 ⟨Nat.le_of_ble_eq_true rfl, Nat.le_of_ble_eq_true rfl⟩) (c_X7_isFull l Γ b M mem (a := 78) (lim := 3) (sz := vz) (by omega) fV (by omega) (by omega)) rfl (by omega) fV rfl rfl (Nat.le_of_ble_eq_true rfl) dX9_vector_25 rfl rfl (fun H locs hh => ?_)
    refine nn_beq (tgt := 41) hx hb dX9_vector_28 (by decide) (fun h2 => ?_) (fun h2 => ?_)
    ·
      exact absurd (of_decide_eq_false h2) (by omega)
    ·
      exact mx_thS_ISE hx hb hlst hown hE hh hnt hml hl.1 (hE.2.2.1.2.1 (RX9, 170, "there are 3 vectors") (List.mem_of_getElem? (i := 13) rfl)) dX9_vector_31 dX9_vector_34 dX9_vector_35 dX9_vector_37 dX9_vector_40 (Nat.le_of_ble_eq_true rfl) (Nat.le_of_ble_eq_true rfl) (Nat.le_of_ble_eq_true rfl) (Nat.le_of_ble_eq_true rfl) hlocks
  ·
    exact (no_tf h4 h1).elim
set_option maxHeartbeats 4000000 in
set_option maxRecDepth 100000 in
/-- yX9_search throws java/lang/IllegalArgumentException -/
theorem x_X9_search_1 (l : Launch) (hlst : l.stackTraces = false) (Γ : Gm) (b M : Nat) (mem : Nat → va_E) {view how k ns : Int32} (hM : 0 < M) (hbad : inR view 3 = true → mkHow view how = true → ¬ k < 0 → ¬ nI 20 < k → ¬ ns < nI 1 → ¬ ns ≤ nI 3) : Cx l yX9_search (.code yX9_search cX9_search 5 (some .int)) ({ frames := 6, cells := 1, slots := 6, locals := 90 } : Room) Γ b M [.ref (b + 0), .int view, .int how, .int k, .int ns] mem "java/lang/IllegalArgumentException" := by
  refine mx_enter (cc := cX9_search) (by decide) (Nat.le_of_ble_eq_true rfl) ?_
  intro p e s m args below meth c ls hx hb hml hown hr hlocks hname hnt hE hh hl
  have hl : lv_has ls 5 [(0, .ref (b + 0)), (1, .int view), (2, .int how), (3, .int k), (4, .int ns)] := hl
  refine lv_iload_n hx hb dX9_search_0 rfl (lv_at hl 1 rfl) ?_
  refine mm_S0r (As := [.int view]) (rest := []) hx hb hml hown hE hl.1 hh (kc_X9_172 hE.2.1 ⟨Nat.le_of_ble_eq_true rfl, Nat.le_of_ble_eq_true rfl⟩) (c_X9_isView l Γ b M mem (t := view)) rfl rfl (Nat.le_of_ble_eq_true rfl) dX9_search_1 rfl rfl (fun H locs hh => ?_)
  refine nn_beq (tgt := 15) hx hb dX9_search_4 (by decide) (fun h1 => ?_) (fun h1 => ?_)
  ·
    exact mx_thS_IAE hx hb hlst hown hE hh hnt hml hl.1 (hE.2.2.1.2.1 (RX9, 179, "no such view, or it is not made so") (List.mem_of_getElem? (i := 14) rfl)) dX9_search_15 dX9_search_18 dX9_search_19 dX9_search_21 dX9_search_24 (Nat.le_of_ble_eq_true rfl) (Nat.le_of_ble_eq_true rfl) (Nat.le_of_ble_eq_true rfl) (Nat.le_of_ble_eq_true rfl) hlocks
  ·
    have g1 := hbad h1
    refine lv_iload_n hx hb dX9_search_7 rfl (lv_at hl 1 rfl) ?_
    refine lv_iload_n hx hb dX9_search_8 rfl (lv_at hl 2 rfl) ?_
    refine mm_S0r (As := [.int view, .int how]) (rest := []) hx hb hml hown hE hl.1 hh (kc_X9_175 hE.2.1 ⟨Nat.le_of_ble_eq_true rfl, Nat.le_of_ble_eq_true rfl⟩) (c_X9_isMadeHow l Γ b M mem (view := view) (how := how)) rfl rfl (Nat.le_of_ble_eq_true rfl) dX9_search_9 rfl rfl (fun H locs hh => ?_)
    refine nn_bne (tgt := 25) hx hb dX9_search_12 (by decide) (fun h2 => ?_) (fun h2 => ?_)
    ·
      have g2 := g1 h2
      refine lv_iload_n hx hb dX9_search_25 rfl (lv_at hl 3 rfl) ?_
      refine lv_if_lt (tgt := 47) hx hb dX9_search_26 (by decide) (fun h3 => ?_) (fun h3 => ?_)
      ·
        exact mx_thS_IAE hx hb hlst hown hE hh hnt hml hl.1 (hE.2.2.1.2.1 (RX9, 181, "K or the number of shards will not do") (List.mem_of_getElem? (i := 15) rfl)) dX9_search_47 dX9_search_50 dX9_search_51 dX9_search_53 dX9_search_56 (Nat.le_of_ble_eq_true rfl) (Nat.le_of_ble_eq_true rfl) (Nat.le_of_ble_eq_true rfl) (Nat.le_of_ble_eq_true rfl) hlocks
      ·
        have g3 := g2 h3
        refine lv_iload_n hx hb dX9_search_29 rfl (lv_at hl 3 rfl) ?_
        refine lv_bipush (v := (nI 20)) hx hb dX9_search_30 (by decide) ?_
        refine lv_icmp_gt (tgt := 47) hx hb dX9_search_32 (by decide) (fun h4 => ?_) (fun h4 => ?_)
        ·
          exact mx_thS_IAE hx hb hlst hown hE hh hnt hml hl.1 (hE.2.2.1.2.1 (RX9, 181, "K or the number of shards will not do") (List.mem_of_getElem? (i := 15) rfl)) dX9_search_47 dX9_search_50 dX9_search_51 dX9_search_53 dX9_search_56 (Nat.le_of_ble_eq_true rfl) (Nat.le_of_ble_eq_true rfl) (Nat.le_of_ble_eq_true rfl) (Nat.le_of_ble_eq_true rfl) hlocks
        ·
          have g4 := g3 h4
          refine lv_iload hx hb dX9_search_35 (lv_at hl 4 rfl) ?_
          refine lv_iconst (v := (nI 1)) hx hb dX9_search_37 (by decide) ?_
          refine lv_icmp_lt (tgt := 47) hx hb dX9_search_38 (by decide) (fun h5 => ?_) (fun h5 => ?_)
          ·
            exact mx_thS_IAE hx hb hlst hown hE hh hnt hml hl.1 (hE.2.2.1.2.1 (RX9, 181, "K or the number of shards will not do") (List.mem_of_getElem? (i := 15) rfl)) dX9_search_47 dX9_search_50 dX9_search_51 dX9_search_53 dX9_search_56 (Nat.le_of_ble_eq_true rfl) (Nat.le_of_ble_eq_true rfl) (Nat.le_of_ble_eq_true rfl) (Nat.le_of_ble_eq_true rfl) hlocks
          ·
            have g5 := g4 h5
            refine lv_iload hx hb dX9_search_41 (lv_at hl 4 rfl) ?_
            refine lv_iconst (v := (nI 3)) hx hb dX9_search_43 (by decide) ?_
            refine lv_icmp_le (tgt := 57) hx hb dX9_search_44 (by decide) (fun h6 => ?_) (fun h6 => ?_)
            ·
              exact absurd h6 g5
            ·
              exact mx_thS_IAE hx hb hlst hown hE hh hnt hml hl.1 (hE.2.2.1.2.1 (RX9, 181, "K or the number of shards will not do") (List.mem_of_getElem? (i := 15) rfl)) dX9_search_47 dX9_search_50 dX9_search_51 dX9_search_53 dX9_search_56 (Nat.le_of_ble_eq_true rfl) (Nat.le_of_ble_eq_true rfl) (Nat.le_of_ble_eq_true rfl) (Nat.le_of_ble_eq_true rfl) hlocks
    ·
      exact mx_thS_IAE hx hb hlst hown hE hh hnt hml hl.1 (hE.2.2.1.2.1 (RX9, 179, "no such view, or it is not made so") (List.mem_of_getElem? (i := 14) rfl)) dX9_search_15 dX9_search_18 dX9_search_19 dX9_search_21 dX9_search_24 (Nat.le_of_ble_eq_true rfl) (Nat.le_of_ble_eq_true rfl) (Nat.le_of_ble_eq_true rfl) (Nat.le_of_ble_eq_true rfl) hlocks
set_option maxHeartbeats 4000000 in
set_option maxRecDepth 100000 in
/-- yX9_search throws java/lang/IllegalStateException -/
theorem x_X9_search_2 (l : Launch) (hlst : l.stackTraces = false) (Γ : Gm) (b M : Nat) (mem : Nat → va_E) {nd cz : Nat} {view k ns : Int32} (hM : 138 ≤ M) (fH : mem 0 = .inr (8, [.ref (b + 1), .ref (b + 72), .ref (b + 75), .ref (b + 78), .ref (b + 80), .ref (b + 91), .ref (b + 93), .ref (b + 96), .ref (b + 109)])) (fC : mem 1 = .inr (0, [.ref (b + 2), .ref (b + 19), .ref (b + 20), .ref (b + 37), .ref (b + 38), .int (nI nd)])) (fZ : mem 38 = .inr (6, [.ref (b + 39), .int (nI 4), .int (nI cz)])) (hv : inR view 3 = true) (hmk : mkHow view (nI 2) = true) (hk : ¬ k < 0 ∧ ¬ nI 20 < k) (hs : ¬ ns < nI 1 ∧ ns ≤ nI 3) (hcz : cz = 0) : Cx l yX9_search (.code yX9_search cX9_search 5 (some .int)) ({ frames := 6, cells := 1, slots := 6, locals := 90 } : Room) Γ b M [.ref (b + 0), .int view, .int (nI 2), .int k, .int ns] mem "java/lang/IllegalStateException" := by
  refine mx_enter (cc := cX9_search) (by decide) (Nat.le_of_ble_eq_true rfl) ?_
  intro p e s m args below meth c ls hx hb hml hown hr hlocks hname hnt hE hh hl
  have hl : lv_has ls 5 [(0, .ref (b + 0)), (1, .int view), (2, .int (nI 2)), (3, .int k), (4, .int ns)] := hl
  refine lv_iload_n hx hb dX9_search_0 rfl (lv_at hl 1 rfl) ?_
  refine mm_S0r (As := [.int view]) (rest := []) hx hb hml hown hE hl.1 hh (kc_X9_172 hE.2.1 ⟨Nat.le_of_ble_eq_true rfl, Nat.le_of_ble_eq_true rfl⟩) (c_X9_isView l Γ b M mem (t := view)) rfl rfl (Nat.le_of_ble_eq_true rfl) dX9_search_1 rfl rfl (fun H locs hh => ?_)
  refine nn_beq (tgt := 15) hx hb dX9_search_4 (by decide) (fun h1 => ?_) (fun h1 => ?_)
  ·
    exact (no_tf hv h1).elim
  ·
    refine lv_iload_n hx hb dX9_search_7 rfl (lv_at hl 1 rfl) ?_
    refine lv_iload_n hx hb dX9_search_8 rfl (lv_at hl 2 rfl) ?_
    refine mm_S0r (As := [.int view, .int (nI 2)]) (rest := []) hx hb hml hown hE hl.1 hh (kc_X9_175 hE.2.1 ⟨Nat.le_of_ble_eq_true rfl, Nat.le_of_ble_eq_true rfl⟩) (c_X9_isMadeHow l Γ b M mem (view := view) (how := (nI 2))) rfl rfl (Nat.le_of_ble_eq_true rfl) dX9_search_9 rfl rfl (fun H locs hh => ?_)
    refine nn_bne (tgt := 25) hx hb dX9_search_12 (by decide) (fun h2 => ?_) (fun h2 => ?_)
    ·
      refine lv_iload_n hx hb dX9_search_25 rfl (lv_at hl 3 rfl) ?_
      refine lv_if_lt (tgt := 47) hx hb dX9_search_26 (by decide) (fun h3 => ?_) (fun h3 => ?_)
      ·
        exact absurd h3 hk.1
      ·
        refine lv_iload_n hx hb dX9_search_29 rfl (lv_at hl 3 rfl) ?_
        refine lv_bipush (v := (nI 20)) hx hb dX9_search_30 (by decide) ?_
        refine lv_icmp_gt (tgt := 47) hx hb dX9_search_32 (by decide) (fun h4 => ?_) (fun h4 => ?_)
        ·
          exact absurd h4 hk.2
        ·
          refine lv_iload hx hb dX9_search_35 (lv_at hl 4 rfl) ?_
          refine lv_iconst (v := (nI 1)) hx hb dX9_search_37 (by decide) ?_
          refine lv_icmp_lt (tgt := 47) hx hb dX9_search_38 (by decide) (fun h5 => ?_) (fun h5 => ?_)
          ·
            exact absurd h5 hs.1
          ·
            refine lv_iload hx hb dX9_search_41 (lv_at hl 4 rfl) ?_
            refine lv_iconst (v := (nI 3)) hx hb dX9_search_43 (by decide) ?_
            refine lv_icmp_le (tgt := 57) hx hb dX9_search_44 (by decide) (fun h6 => ?_) (fun h6 => ?_)
            ·
              refine lv_iload_n hx hb dX9_search_57 rfl (lv_at hl 2 rfl) ?_
              refine lv_iconst (v := (nI 2)) hx hb dX9_search_58 (by decide) ?_
              refine nn_icmp_ne (tgt := 85) hx hb dX9_search_59 (by decide) (by omega) (by omega) (fun h7 => ?_) (fun h7 => ?_)
              ·
                exact absurd rfl h7
              ·
                refine lv_aload_n hx hb dX9_search_62 rfl (lv_at hl 0 rfl) ?_
                refine gf_X9_collection hx hb hE hown hh (by omega) fH rfl dX9_search_63 ?_
                refine mm_V0r (As := []) (rest := []) hx hb hml hown hE hl.1 hh (kc_X9_143 hE.2.1 ⟨Nat.le_of_ble_eq_true rfl, Nat.le_of_ble_eq_true rfl⟩) (c_X0_centroidRow l Γ b M mem (nd := nd) (by omega) fC) rfl (by omega) fC rfl rfl (Nat.le_of_ble_eq_true rfl) dX9_search_66 rfl rfl (fun H locs hh => ?_)
                refine mm_V0r (As := []) (rest := []) hx hb hml hown hE hl.1 hh (kc_X9_183 hE.2.1 ⟨Nat.le_of_ble_eq_true rfl, Nat.le_of_ble_eq_true rfl⟩) (c_X7_size l Γ b M mem (a := 38) (lim := 4) (sz := cz) (by omega) fZ) rfl (by omega) fZ rfl rfl (Nat.le_of_ble_eq_true rfl) dX9_search_69 rfl rfl (fun H locs hh => ?_)
                refine nn_if_ne (tgt := 85) hx hb dX9_search_72 (by decide) (by omega) (fun h8 => ?_) (fun h8 => ?_)
                ·
                  exact absurd h8 (by omega)
                ·
                  exact mx_thS_ISE hx hb hlst hown hE hh hnt hml hl.1 (hE.2.2.1.2.1 (RX9, 186, "there are no centroids") (List.mem_of_getElem? (i := 16) rfl)) dX9_search_75 dX9_search_78 dX9_search_79 dX9_search_81 dX9_search_84 (Nat.le_of_ble_eq_true rfl) (Nat.le_of_ble_eq_true rfl) (Nat.le_of_ble_eq_true rfl) (Nat.le_of_ble_eq_true rfl) hlocks
            ·
              exact absurd hs.2 h6
    ·
      exact (no_tf hmk h2).elim
set_option maxHeartbeats 4000000 in
set_option maxRecDepth 100000 in
/-- yX9_madeList throws java/lang/IllegalArgumentException -/
theorem x_X9_madeList_1 (l : Launch) (hlst : l.stackTraces = false) (Γ : Gm) (b M : Nat) (mem : Nat → va_E) {v : Int32} (hM : 0 < M) (hvn : inR v 3 = false) : Cx l yX9_madeList (.code yX9_madeList cX9_madeList 2 (some (.object "HybridSearch$Listing"))) ({ frames := 6, cells := 1, slots := 6, locals := 90 } : Room) Γ b M [.ref (b + 0), .int v] mem "java/lang/IllegalArgumentException" := by
  refine mx_enter (cc := cX9_madeList) (by decide) (Nat.le_of_ble_eq_true rfl) ?_
  intro p e s m args below meth c ls hx hb hml hown hr hlocks hname hnt hE hh hl
  have hl : lv_has ls 2 [(0, .ref (b + 0)), (1, .int v)] := hl
  refine lv_iload_n hx hb dX9_madeList_0 rfl (lv_at hl 1 rfl) ?_
  refine mm_S0r (As := [.int v]) (rest := []) hx hb hml hown hE hl.1 hh (kc_X9_172 hE.2.1 ⟨Nat.le_of_ble_eq_true rfl, Nat.le_of_ble_eq_true rfl⟩) (c_X9_isView l Γ b M mem (t := v)) rfl rfl (Nat.le_of_ble_eq_true rfl) dX9_madeList_1 rfl rfl (fun H locs hh => ?_)
  refine nn_bne (tgt := 18) hx hb dX9_madeList_4 (by decide) (fun h1 => ?_) (fun h1 => ?_)
  ·
    exact (no_tf h1 hvn).elim
  ·
    exact mx_thW_IAE hx hb hlst hown hE hh hnt hml hl.1 (hE.2.2.1.2.1 (RX9, 265, "no such view") (List.mem_of_getElem? (i := 17) rfl)) dX9_madeList_7 dX9_madeList_10 dX9_madeList_11 dX9_madeList_14 dX9_madeList_17 (Nat.le_of_ble_eq_true rfl) (Nat.le_of_ble_eq_true rfl) (Nat.le_of_ble_eq_true rfl) (Nat.le_of_ble_eq_true rfl) hlocks
set_option maxHeartbeats 4000000 in
set_option maxRecDepth 100000 in
/-- yX9_work throws java/lang/IllegalArgumentException -/
theorem x_X9_work_1 (l : Launch) (hlst : l.stackTraces = false) (Γ : Gm) (b M : Nat) (mem : Nat → va_E) {v w : Int32} (hM : 0 < M) (hw : ¬ w = 0 ∧ ¬ w = nI 1 ∧ ¬ w = nI 2) : Cx l yX9_work (.code yX9_work cX9_work 4 (some .int)) ({ frames := 6, cells := 1, slots := 6, locals := 90 } : Room) Γ b M [.ref (b + 0), .int v, .int w] mem "java/lang/IllegalArgumentException" := by
  refine mx_enter (cc := cX9_work) (by decide) (Nat.le_of_ble_eq_true rfl) ?_
  intro p e s m args below meth c ls hx hb hml hown hr hlocks hname hnt hE hh hl
  have hl : lv_has ls 4 [(0, .ref (b + 0)), (1, .int v), (2, .int w)] := hl
  refine lv_iload_n hx hb dX9_work_0 rfl (lv_at hl 2 rfl) ?_
  refine lv_if_eq (tgt := 24) hx hb dX9_work_1 (by decide) (fun h1 => ?_) (fun h1 => ?_)
  ·
    exact absurd h1 hw.1
  ·
    refine lv_iload_n hx hb dX9_work_4 rfl (lv_at hl 2 rfl) ?_
    refine lv_iconst (v := (nI 1)) hx hb dX9_work_5 (by decide) ?_
    refine lv_icmp_eq (tgt := 24) hx hb dX9_work_6 (by decide) (fun h2 => ?_) (fun h2 => ?_)
    ·
      exact absurd h2 hw.2.1
    ·
      refine lv_iload_n hx hb dX9_work_9 rfl (lv_at hl 2 rfl) ?_
      refine lv_iconst (v := (nI 2)) hx hb dX9_work_10 (by decide) ?_
      refine lv_icmp_eq (tgt := 24) hx hb dX9_work_11 (by decide) (fun h3 => ?_) (fun h3 => ?_)
      ·
        exact absurd h3 hw.2.2
      ·
        exact mx_thS_IAE hx hb hlst hown hE hh hnt hml hl.1 (hE.2.2.1.2.1 (RX9, 211, "no such work") (List.mem_of_getElem? (i := 20) rfl)) dX9_work_14 dX9_work_17 dX9_work_18 dX9_work_20 dX9_work_23 (Nat.le_of_ble_eq_true rfl) (Nat.le_of_ble_eq_true rfl) (Nat.le_of_ble_eq_true rfl) (Nat.le_of_ble_eq_true rfl) hlocks
set_option maxHeartbeats 4000000 in
set_option maxRecDepth 100000 in
/-- yX9_fuse throws java/lang/IllegalArgumentException -/
theorem x_X9_fuse_1 (l : Launch) (hlst : l.stackTraces = false) (Γ : Gm) (b M : Nat) (mem : Nat → va_E) {w : Int32} (hM : 0 < M) (hw : ¬ w = 0 ∧ ¬ w = nI 1 ∧ ¬ w = nI 2) : Cx l yX9_fuse (.code yX9_fuse cX9_fuse 2 (some .int)) ({ frames := 6, cells := 1, slots := 6, locals := 90 } : Room) Γ b M [.ref (b + 0), .int w] mem "java/lang/IllegalArgumentException" := by
  refine mx_enter (cc := cX9_fuse) (by decide) (Nat.le_of_ble_eq_true rfl) ?_
  intro p e s m args below meth c ls hx hb hml hown hr hlocks hname hnt hE hh hl
  have hl : lv_has ls 2 [(0, .ref (b + 0)), (1, .int w)] := hl
  refine lv_iload_n hx hb dX9_fuse_0 rfl (lv_at hl 1 rfl) ?_
  refine lv_if_eq (tgt := 24) hx hb dX9_fuse_1 (by decide) (fun h1 => ?_) (fun h1 => ?_)
  ·
    exact absurd h1 hw.1
  ·
    refine lv_iload_n hx hb dX9_fuse_4 rfl (lv_at hl 1 rfl) ?_
    refine lv_iconst (v := (nI 1)) hx hb dX9_fuse_5 (by decide) ?_
    refine lv_icmp_eq (tgt := 24) hx hb dX9_fuse_6 (by decide) (fun h2 => ?_) (fun h2 => ?_)
    ·
      exact absurd h2 hw.2.1
    ·
      refine lv_iload_n hx hb dX9_fuse_9 rfl (lv_at hl 1 rfl) ?_
      refine lv_iconst (v := (nI 2)) hx hb dX9_fuse_10 (by decide) ?_
      refine lv_icmp_eq (tgt := 24) hx hb dX9_fuse_11 (by decide) (fun h3 => ?_) (fun h3 => ?_)
      ·
        exact absurd h3 hw.2.2
      ·
        exact mx_thS_IAE hx hb hlst hown hE hh hnt hml hl.1 (hE.2.2.1.2.1 (RX9, 226, "no such way") (List.mem_of_getElem? (i := 21) rfl)) dX9_fuse_14 dX9_fuse_17 dX9_fuse_18 dX9_fuse_20 dX9_fuse_23 (Nat.le_of_ble_eq_true rfl) (Nat.le_of_ble_eq_true rfl) (Nat.le_of_ble_eq_true rfl) (Nat.le_of_ble_eq_true rfl) hlocks
set_option maxHeartbeats 4000000 in
set_option maxRecDepth 100000 in
/-- yX9_fuse throws java/lang/IllegalStateException -/
theorem x_X9_fuse_2 (l : Launch) (hlst : l.stackTraces = false) (Γ : Gm) (b M : Nat) (mem : Nat → va_E) {way : Nat} {lst : Nat → Bool × Nat × Nat × Nat} (hM : 138 ≤ M) (fH : mem 0 = .inr (8, [.ref (b + 1), .ref (b + 72), .ref (b + 75), .ref (b + 78), .ref (b + 80), .ref (b + 91), .ref (b + 93), .ref (b + 96), .ref (b + 109)])) (fLo : mem 96 = aR Γ 5 3 (fun i => some (b + (97 + 4 * i)))) (fls : ∀ z9, z9 < 3 → mem (97 + 4 * z9) = .inr (2, [.ref (b + (97 + 4 * z9 + 1)), .int (bI ((lst z9).1)), .int (nI ((lst z9).2.1)), .int (nI ((lst z9).2.2.1)), .int (nI ((lst z9).2.2.2))])) (hw : way < 3) (han : anL lst 3 = false) : Cx l yX9_fuse (.code yX9_fuse cX9_fuse 2 (some .int)) ({ frames := 6, cells := 1, slots := 6, locals := 90 } : Room) Γ b M [.ref (b + 0), .int (nI way)] mem "java/lang/IllegalStateException" := by
  refine mx_enter (cc := cX9_fuse) (by decide) (Nat.le_of_ble_eq_true rfl) ?_
  intro p e s m args below meth c ls hx hb hml hown hr hlocks hname hnt hE hh hl
  have hl : lv_has ls 2 [(0, .ref (b + 0)), (1, .int (nI way))] := hl
  refine lv_iload_n hx hb dX9_fuse_0 rfl (lv_at hl 1 rfl) ?_
  refine nn_if_eq (tgt := 24) hx hb dX9_fuse_1 (by decide) (by omega) (fun h1 => ?_) (fun h1 => ?_)
  ·
    refine lv_aload_n hx hb dX9_fuse_24 rfl (lv_at hl 0 rfl) ?_
    refine mm_V0r (As := []) (rest := []) hx hb hml hown hE hl.1 hh (kc_X9_228 hE.2.1 ⟨Nat.le_of_ble_eq_true rfl, Nat.le_of_ble_eq_true rfl⟩) (c_X9_isAnyListMade l Γ b M mem (lst := lst) (by omega) fH fLo fls) rfl (by omega) fH rfl rfl (Nat.le_of_ble_eq_true rfl) dX9_fuse_25 rfl rfl (fun H locs hh => ?_)
    refine nn_bne (tgt := 41) hx hb dX9_fuse_28 (by decide) (fun h2 => ?_) (fun h2 => ?_)
    ·
      exact (no_tf h2 han).elim
    ·
      exact mx_thS_ISE hx hb hlst hown hE hh hnt hml hl.1 (hE.2.2.1.2.1 (RX9, 231, "there is no list") (List.mem_of_getElem? (i := 22) rfl)) dX9_fuse_31 dX9_fuse_34 dX9_fuse_35 dX9_fuse_37 dX9_fuse_40 (Nat.le_of_ble_eq_true rfl) (Nat.le_of_ble_eq_true rfl) (Nat.le_of_ble_eq_true rfl) (Nat.le_of_ble_eq_true rfl) hlocks
  ·
    refine lv_iload_n hx hb dX9_fuse_4 rfl (lv_at hl 1 rfl) ?_
    refine lv_iconst (v := (nI 1)) hx hb dX9_fuse_5 (by decide) ?_
    refine nn_icmp_eq (tgt := 24) hx hb dX9_fuse_6 (by decide) (by omega) (by omega) (fun h3 => ?_) (fun h3 => ?_)
    ·
      refine lv_aload_n hx hb dX9_fuse_24 rfl (lv_at hl 0 rfl) ?_
      refine mm_V0r (As := []) (rest := []) hx hb hml hown hE hl.1 hh (kc_X9_228 hE.2.1 ⟨Nat.le_of_ble_eq_true rfl, Nat.le_of_ble_eq_true rfl⟩) (c_X9_isAnyListMade l Γ b M mem (lst := lst) (by omega) fH fLo fls) rfl (by omega) fH rfl rfl (Nat.le_of_ble_eq_true rfl) dX9_fuse_25 rfl rfl (fun H locs hh => ?_)
      refine nn_bne (tgt := 41) hx hb dX9_fuse_28 (by decide) (fun h4 => ?_) (fun h4 => ?_)
      ·
        exact (no_tf h4 han).elim
      ·
        exact mx_thS_ISE hx hb hlst hown hE hh hnt hml hl.1 (hE.2.2.1.2.1 (RX9, 231, "there is no list") (List.mem_of_getElem? (i := 22) rfl)) dX9_fuse_31 dX9_fuse_34 dX9_fuse_35 dX9_fuse_37 dX9_fuse_40 (Nat.le_of_ble_eq_true rfl) (Nat.le_of_ble_eq_true rfl) (Nat.le_of_ble_eq_true rfl) (Nat.le_of_ble_eq_true rfl) hlocks
    ·
      refine lv_iload_n hx hb dX9_fuse_9 rfl (lv_at hl 1 rfl) ?_
      refine lv_iconst (v := (nI 2)) hx hb dX9_fuse_10 (by decide) ?_
      refine nn_icmp_eq (tgt := 24) hx hb dX9_fuse_11 (by decide) (by omega) (by omega) (fun h5 => ?_) (fun h5 => ?_)
      ·
        refine lv_aload_n hx hb dX9_fuse_24 rfl (lv_at hl 0 rfl) ?_
        refine mm_V0r (As := []) (rest := []) hx hb hml hown hE hl.1 hh (kc_X9_228 hE.2.1 ⟨Nat.le_of_ble_eq_true rfl, Nat.le_of_ble_eq_true rfl⟩) (c_X9_isAnyListMade l Γ b M mem (lst := lst) (by omega) fH fLo fls) rfl (by omega) fH rfl rfl (Nat.le_of_ble_eq_true rfl) dX9_fuse_25 rfl rfl (fun H locs hh => ?_)
        refine nn_bne (tgt := 41) hx hb dX9_fuse_28 (by decide) (fun h6 => ?_) (fun h6 => ?_)
        ·
          exact (no_tf h6 han).elim
        ·
          exact mx_thS_ISE hx hb hlst hown hE hh hnt hml hl.1 (hE.2.2.1.2.1 (RX9, 231, "there is no list") (List.mem_of_getElem? (i := 22) rfl)) dX9_fuse_31 dX9_fuse_34 dX9_fuse_35 dX9_fuse_37 dX9_fuse_40 (Nat.le_of_ble_eq_true rfl) (Nat.le_of_ble_eq_true rfl) (Nat.le_of_ble_eq_true rfl) (Nat.le_of_ble_eq_true rfl) hlocks
      ·
        exact absurd hw (by omega)
set_option maxHeartbeats 4000000 in
set_option maxRecDepth 100000 in
/-- yX9_fused throws java/lang/IndexOutOfBoundsException -/
theorem x_X9_fused_1 (l : Launch) (hlst : l.stackTraces = false) (Γ : Gm) (b M : Nat) (mem : Nat → va_E) {lf sf : Nat} {i : Int32} (hM : 138 ≤ M) (fH : mem 0 = .inr (8, [.ref (b + 1), .ref (b + 72), .ref (b + 75), .ref (b + 78), .ref (b + 80), .ref (b + 91), .ref (b + 93), .ref (b + 96), .ref (b + 109)])) (fF : mem 109 = .inr (1, [.ref (b + 110), .ref (b + 113), .ref (b + 114)])) (fR0 : mem 110 = .inr (4, [.ref (b + 111), .ref (b + 112), .int (nI lf), .int (nI sf)])) (hi : inR i sf = false) : Cx l yX9_fused (.code yX9_fused cX9_fused 2 (some .int)) ({ frames := 6, cells := 1, slots := 6, locals := 90 } : Room) Γ b M [.ref (b + 0), .int i] mem "java/lang/IndexOutOfBoundsException" := by
  refine mx_enter (cc := cX9_fused) (by decide) (Nat.le_of_ble_eq_true rfl) ?_
  intro p e s m args below meth c ls hx hb hml hown hr hlocks hname hnt hE hh hl
  have hl : lv_has ls 2 [(0, .ref (b + 0)), (1, .int i)] := hl
  refine lv_aload_n hx hb dX9_fused_0 rfl (lv_at hl 0 rfl) ?_
  refine gf_X9_fusion hx hb hE hown hh (by omega) fH rfl dX9_fused_1 ?_
  refine mm_V0r (As := []) (rest := []) hx hb hml hown hE hl.1 hh (kc_X9_237 hE.2.1 ⟨Nat.le_of_ble_eq_true rfl, Nat.le_of_ble_eq_true rfl⟩) (c_X1_ranking l Γ b M mem (by omega) fF) rfl (by omega) fF rfl rfl (Nat.le_of_ble_eq_true rfl) dX9_fused_4 rfl rfl (fun H locs hh => ?_)
  refine lv_iload_n hx hb dX9_fused_7 rfl (lv_at hl 1 rfl) ?_
  refine mm_V0r (As := [.int i]) (rest := []) hx hb hml hown hE hl.1 hh (kc_X9_238 hE.2.1 ⟨Nat.le_of_ble_eq_true rfl, Nat.le_of_ble_eq_true rfl⟩) (c_X4_holdsPlace l Γ b M mem (a := 110) (lim := lf) (sz := sf) (i := i) (by omega) fR0) rfl (by omega) fR0 rfl rfl (Nat.le_of_ble_eq_true rfl) dX9_fused_8 rfl rfl (fun H locs hh => ?_)
  refine nn_bne (tgt := 24) hx hb dX9_fused_11 (by decide) (fun h1 => ?_) (fun h1 => ?_)
  ·
    exact (no_tf h1 hi).elim
  ·
    exact mx_thS_IOB hx hb hlst hown hE hh hnt hml hl.1 (hE.2.2.1.2.1 (RX9, 241, "no such place") (List.mem_of_getElem? (i := 19) rfl)) dX9_fused_14 dX9_fused_17 dX9_fused_18 dX9_fused_20 dX9_fused_23 (Nat.le_of_ble_eq_true rfl) (Nat.le_of_ble_eq_true rfl) (Nat.le_of_ble_eq_true rfl) (Nat.le_of_ble_eq_true rfl) hlocks
set_option maxHeartbeats 4000000 in
set_option maxRecDepth 100000 in
/-- yX9_rating throws java/lang/IndexOutOfBoundsException -/
theorem x_X9_rating_1 (l : Launch) (hlst : l.stackTraces = false) (Γ : Gm) (b M : Nat) (mem : Nat → va_E) {lf sf : Nat} {i : Int32} (hM : 138 ≤ M) (fH : mem 0 = .inr (8, [.ref (b + 1), .ref (b + 72), .ref (b + 75), .ref (b + 78), .ref (b + 80), .ref (b + 91), .ref (b + 93), .ref (b + 96), .ref (b + 109)])) (fF : mem 109 = .inr (1, [.ref (b + 110), .ref (b + 113), .ref (b + 114)])) (fR0 : mem 110 = .inr (4, [.ref (b + 111), .ref (b + 112), .int (nI lf), .int (nI sf)])) (hi : inR i sf = false) : Cx l yX9_rating (.code yX9_rating cX9_rating 2 (some .double)) ({ frames := 6, cells := 1, slots := 6, locals := 90 } : Room) Γ b M [.ref (b + 0), .int i] mem "java/lang/IndexOutOfBoundsException" := by
  refine mx_enter (cc := cX9_rating) (by decide) (Nat.le_of_ble_eq_true rfl) ?_
  intro p e s m args below meth c ls hx hb hml hown hr hlocks hname hnt hE hh hl
  have hl : lv_has ls 2 [(0, .ref (b + 0)), (1, .int i)] := hl
  refine lv_aload_n hx hb dX9_rating_0 rfl (lv_at hl 0 rfl) ?_
  refine gf_X9_fusion hx hb hE hown hh (by omega) fH rfl dX9_rating_1 ?_
  refine mm_V0r (As := []) (rest := []) hx hb hml hown hE hl.1 hh (kc_X9_237 hE.2.1 ⟨Nat.le_of_ble_eq_true rfl, Nat.le_of_ble_eq_true rfl⟩) (c_X1_ranking l Γ b M mem (by omega) fF) rfl (by omega) fF rfl rfl (Nat.le_of_ble_eq_true rfl) dX9_rating_4 rfl rfl (fun H locs hh => ?_)
  refine lv_iload_n hx hb dX9_rating_7 rfl (lv_at hl 1 rfl) ?_
  refine mm_V0r (As := [.int i]) (rest := []) hx hb hml hown hE hl.1 hh (kc_X9_238 hE.2.1 ⟨Nat.le_of_ble_eq_true rfl, Nat.le_of_ble_eq_true rfl⟩) (c_X4_holdsPlace l Γ b M mem (a := 110) (lim := lf) (sz := sf) (i := i) (by omega) fR0) rfl (by omega) fR0 rfl rfl (Nat.le_of_ble_eq_true rfl) dX9_rating_8 rfl rfl (fun H locs hh => ?_)
  refine nn_bne (tgt := 24) hx hb dX9_rating_11 (by decide) (fun h1 => ?_) (fun h1 => ?_)
  ·
    exact (no_tf h1 hi).elim
  ·
    exact mx_thS_IOB hx hb hlst hown hE hh hnt hml hl.1 (hE.2.2.1.2.1 (RX9, 241, "no such place") (List.mem_of_getElem? (i := 19) rfl)) dX9_rating_14 dX9_rating_17 dX9_rating_18 dX9_rating_20 dX9_rating_23 (Nat.le_of_ble_eq_true rfl) (Nat.le_of_ble_eq_true rfl) (Nat.le_of_ble_eq_true rfl) (Nat.le_of_ble_eq_true rfl) hlocks
