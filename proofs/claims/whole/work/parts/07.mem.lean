/-! ONE MEMORY for all methods: the cells from b on, M of them; cell i holds 'mem i'. No frame rule is needed: a contract says which memory comes out. -/
def gW (b M : Nat) (mem : Nat → va_E) : va_W := (List.range M).map (fun i => (b + i, mem i))
theorem gW_get {b M : Nat} {mem : Nat → va_E} {i : Nat} (h : i < M) : (gW b M mem)[i]? = some (b + i, mem i) := by simp [gW, h]
theorem gW_some {b M : Nat} {mem : Nat → va_E} {k : Nat} {q : Nat × va_E} (h : (gW b M mem)[k]? = some q) : k < M ∧ q = (b + k, mem k) := by
  have hk : k < M := by
    have := (List.getElem?_eq_some_iff.mp h).1
    simpa [gW] using this
  rw [gW_get hk] at h
  exact ⟨hk, (Option.some.inj h).symm⟩
theorem gW_at {b M : Nat} {mem : Nat → va_E} {i : Nat} {x : va_E} (h : i < M) (hm : mem i = x) : (gW b M mem)[i]? = some (b + i, x) := by rw [gW_get h, hm]
theorem gW_len {b M : Nat} {mem : Nat → va_E} : (gW b M mem).length = M := by simp [gW]
theorem gW_set {b M : Nat} {mem : Nat → va_E} {i : Nat} {x : va_E} (hi : i < M) : (gW b M mem).set i (b + i, x) = gW b M (va_up mem i x) := by
  apply List.ext_getElem?
  intro j
  rw [List.getElem?_set]
  by_cases hj : j < M
  · by_cases e : i = j
    · subst e
      rw [if_pos rfl, if_pos (by rw [gW_len]; exact hi), gW_get hj, va_up_self]
    · rw [if_neg e, gW_get hj, gW_get hj, va_up_ne _ _ (fun h => e h.symm)]
  · have h1 : (gW b M (va_up mem i x))[j]? = none := List.getElem?_eq_none (by rw [gW_len]; omega)
    have h2 : (gW b M mem)[j]? = none := List.getElem?_eq_none (by rw [gW_len]; omega)
    rw [h1, h2]
    have e : ¬ i = j := by omega
    simp [e]
theorem gW_push {b M : Nat} {mem : Nat → va_E} {x : va_E} : gW b M mem ++ [(b + M, x)] = gW b (M + 1) (va_up mem M x) := by
  unfold gW
  rw [List.range_succ, List.map_append]
  congr 1
  · apply List.map_congr_left
    intro a ha
    have := List.mem_range.mp ha
    simp [va_up, show ¬ a = M by omega]
  · simp [va_up]
theorem gW_D {b M : Nat} {mem : Nat → va_E} : va_D (fun q => b ≤ q) (gW b M mem) := by
  refine ⟨fun i j p q hi hj hpq => ?_, fun k q hk => ?_⟩
  · obtain ⟨_, rfl⟩ := gW_some hi
    obtain ⟨_, rfl⟩ := gW_some hj
    dsimp only at hpq
    omega
  · obtain ⟨_, rfl⟩ := gW_some hk
    exact Nat.le_add_right b k
def GI (Γ : Gm) (b M : Nat) (mem : Nat → va_E) (U : State) : Prop := va_P Γ.1 vwCl (gW b M mem) U.heap ∧ EX Γ b U
def GH (Γ : Gm) (b M : Nat) (mem : Nat → va_E) (s : State) (H : Heap) (locs : List Loc) : Prop := va_P Γ.1 vwCl (gW b M mem) H ∧ va_S (fun q => b ≤ q) s.heap H locs
abbrev aI (Γ : Gm) (n : Nat) (f : Nat → Int32) : va_E := .inl (Γ.2 0, n, .inl f)
abbrev aN (Γ : Gm) (n : Nat) (g : Nat → Nat) : va_E := aI Γ n (fun t => nI (g t))
theorem va_up_nI (g : Nat → Nat) (k v : Nat) : va_up (fun t => nI (g t)) k (nI v) = fun t => nI (va_up g k v t) := by
  funext t
  unfold va_up
  split <;> rfl
abbrev aF (Γ : Gm) (n : Nat) (f : Nat → UInt32) : va_E := .inl (Γ.2 1, n, .inr (.inr (.inl f)))
abbrev aD (Γ : Gm) (n : Nat) (f : Nat → UInt64) : va_E := .inl (Γ.2 2, n, .inr (.inr (.inr (.inl f))))
abbrev aZ (Γ : Gm) (n : Nat) (f : Nat → Int32) : va_E := .inl (Γ.2 3, n, .inl f)
abbrev aJ (Γ : Gm) (n : Nat) (f : Nat → Int64) : va_E := .inl (Γ.2 4, n, .inr (.inl f))
abbrev aR (Γ : Gm) (k n : Nat) (f : Nat → Option Nat) : va_E := .inl (Γ.2 k, n, .inr (.inr (.inr (.inr f))))
abbrev ob (ci : Nat) (fs : List Value) : va_E := .inr (ci, fs)
def QC (Γ : Gm) (b M : Nat) (P : (Nat → va_E) → Prop) (out : Option Value) : Array Value → State → Outcome → State → Prop := fun _ st oc t => oc = .returned out ∧ (∃ u : Nat → va_E, P u ∧ GI Γ b M u t) ∧ va_F (fun q => b ≤ q) st t
/-- THE CONTRACT: at memory mem, with arguments av, the method y returns 'out' and leaves a memory of which P holds -/
def Ct (l : Launch) (y : MethodName) (cw : Cond) (rm : Room) (Γ : Gm) (b M : Nat) (av : List Value) (mem : Nat → va_E) (P : (Nat → va_E) → Prop) (out : Option Value) : Prop :=
  Met l y [cw] rm (va_Pc av (GI Γ b M mem)) (QC Γ b M P out) rm.cells rm.slots (fun q => b ≤ q)
theorem va_blind {av : List Value} {Γ : Gm} {b M : Nat} {mem : Nat → va_E} : FrameBlind (va_Pc av (GI Γ b M mem)) := fun a U g mk q => by
  obtain ⟨q0, q1, q2⟩ := q
  exact ⟨q0, q1, q2.warm (U := U.calling g mk a) (State.WarmedH.refl U) (Nat.le_refl _) (fun _ _ _ => rfl)⟩
section MM
variable {p : Program} {l : Launch} {e : Env} {R : Room} {s : State} {m : MethodId} {args : Array Value} {below : List Frame} {meth : Method} {c : Code} {H : Heap} {locs : List Loc} {cells slots : Nat} {Q : State → Prop}
variable {cc : ByteArray} {pc : Nat} {ls : Array Slot} {rest st0 : List Value} {Γ : Gm} {b M : Nat} {mem : Nat → va_E} {P : (Nat → va_E) → Prop}
theorem GH.at (hh : GH Γ b M mem s H locs) (hE : EX Γ b s) {U : State} (hU : U.heap = H) (hW : s.WarmedH U.vm) : GI Γ b M mem U :=
  ⟨by rw [hU]; exact hh.1, hE.warm hW (by rw [hU]; exact hh.2.1) (fun q h1 h2 => by rw [hU]; exact hh.2.2.1 q h1 h2)⟩
theorem mm_enter {y : MethodName} {maxL : Nat} {ret : Option FieldType} {rm : Room} {av : List Value} {out : Option Value} (hy : plainName y.cls = true) (hlen : (lg_sl av).length ≤ maxL)
    (body : ∀ (p : Program) (e : Env) (s : State) (m : MethodId) (args : Array Value) (below : List Frame) (meth : Method) (c : Code) (ls : Array Slot), p.tables.exec = Jvm.exec → c.code = cc → c.maxLocals = maxL → s.vm.findClass y.cls = some m.cls → meth.sig.returnType = ret → meth.locks = false → meth.name = y.name → EX Γ b s → GH Γ b M mem s s.heap [] → lv_has ls maxL (lv_args 0 av) →
      W p l e rm s m args below meth c s.heap [] 0 0 (MQ below (QC Γ b M P out) args s rm.cells rm.slots (fun q => b ≤ q)) (F0 m 0 ls [])) :
    Ct l y (.code y cc maxL ret) rm Γ b M av mem P out := by
  refine Met.ofW (cc := cc) (maxL := maxL) (ret := ret) hy rfl ?_
  intro p e s m args below meth c s₁ B hml hv
  obtain ⟨rfl, hP, hE⟩ := hv
  have hl := lv_entry av (n := maxL) hlen
  rw [lg_entry_eq]
  exact body p e s m _ below meth c _ B.exec B.bytes hml (findClass_of_methodNamed B.named) B.returns B.notSynchronized (name_of_methodNamed B.named B.method).1 hE ⟨hP, va_S.rf⟩ hl
theorem mm_run {mc ms : Nat} {a : Array Value} {out : Option Value} (hh : GH Γ b M mem s H locs) (hr : va_Run p l e R s m args below meth c H locs cells slots mc ms (F0 m pc ls st0) rest (QC Γ b M P out a) (fun q => b ≤ q))
    (kk : ∀ (H1 : Heap) (locs1 : List Loc) (mem1 : Nat → va_E), P mem1 → GH Γ b M mem1 s H1 locs1 → W p l e R s m args below meth c H1 locs1 (cells + mc) (slots + ms) Q (F0 m (pc + 3) ls (out.toList ++ rest))) : W p l e R s m args below meth c H locs cells slots Q (F0 m pc ls st0) := by
  intro T hT X
  obtain ⟨v, st₀, t, T', L, h0, X', hL, e1, e2, ⟨hv, ⟨u, hPu, hG⟩, hz, hk⟩, st⟩ := hr T hT X
  cases hv
  rw [h0] at hz hk
  have hS := hh.2
  obtain ⟨t2, a1, b1⟩ := kk T'.heap (locs ++ L) u hPu ⟨by rw [e1]; exact hG.1, Nat.le_trans hS.1 (by rw [e1]; exact hz), fun q h1 h2 => by rw [e1, hk q (Nat.lt_of_lt_of_le h1 hS.1) h2]; exact hS.2.1 q h1 h2, fun q hq => by
      rcases List.mem_append.mp hq with h | h
      · exact hS.2.2 q h
      · exact hL q h⟩ T' rfl X'
  exact ⟨t2, st t2 a1, b1⟩
theorem mm_V {y : MethodName} {bytes : ByteArray} {maxL nL index n ci i N : Nat} {ret : Option FieldType} {own C : String} {T : u_T} {As fs : List Value} {rm : Room} {out : Option Value} (hx : p.tables.exec = Jvm.exec) (hb : c.code = cc) (hml : c.maxLocals = nL) (hown : s.vm.findClass own = some m.cls) (hE : EX Γ b s) (hl : ls.size = nL)
    (hh : GH Γ b M mem s H locs) (cw : CallW R s args own C index y bytes maxL ret [.code y bytes maxL ret] rm rm.cells rm.slots n) (hM : Ct l y (.code y bytes maxL ret) rm Γ b M (.ref (b + i) :: As) mem P out) (hc : vwCl[ci]? = some (C, T, N)) (hi : i < M) (hm : mem i = .inr (ci, fs)) (hn : As.length = n)
    (hst : st0 = As.reverse ++ .ref (b + i) :: rest) (hW : (rest.map fun v => v.category).sum ≤ 8) (hdg : decode cc pc = .ok (.invokevirtual index, 3)) (hf : cells + rm.cells ≤ R.cells ∧ slots + rm.slots ≤ R.slots)
    (kk : ∀ (H1 : Heap) (locs1 : List Loc) (mem1 : Nat → va_E), P mem1 → GH Γ b M mem1 s H1 locs1 → W p l e R s m args below meth c H1 locs1 (cells + rm.cells) (slots + rm.slots) Q (F0 m (pc + 3) ls (out.toList ++ rest))) : W p l e R s m args below meth c H locs cells slots Q (F0 m pc ls st0) :=
  mm_run hh (va_runV (As := As) (rest := rest) (Ts := []) (cc := cc) (nL := nL) ⟨hx, hb, hml, hown, fun _ h => nomatch h⟩ hM cw ⟨va_blind, va_recv hE.1 hh.1 hc (gW_at hi hm), fun U hU hW => ⟨rfl, hh.at hE hU hW⟩⟩ rfl hn hl hst (lv_room hW) hdg hf) kk
theorem mm_S {y : MethodName} {bytes : ByteArray} {maxL nL index n : Nat} {ret : Option FieldType} {own : String} {As : List Value} {rm : Room} {out : Option Value} (hx : p.tables.exec = Jvm.exec) (hb : c.code = cc) (hml : c.maxLocals = nL) (hown : s.vm.findClass own = some m.cls) (hE : EX Γ b s) (hl : ls.size = nL)
    (hh : GH Γ b M mem s H locs) (cw : CallB R s args own index y bytes maxL ret [.code y bytes maxL ret] rm rm.cells rm.slots n ∧ (Cond.static y).before args s = true) (hM : Ct l y (.code y bytes maxL ret) rm Γ b M As mem P out) (hn : As.length = n)
    (hst : st0 = As.reverse ++ rest) (hW : (rest.map fun v => v.category).sum ≤ 8) (hdg : decode cc pc = .ok (.invokestatic index, 3)) (hf : cells + rm.cells ≤ R.cells ∧ slots + rm.slots ≤ R.slots)
    (kk : ∀ (H1 : Heap) (locs1 : List Loc) (mem1 : Nat → va_E), P mem1 → GH Γ b M mem1 s H1 locs1 → W p l e R s m args below meth c H1 locs1 (cells + rm.cells) (slots + rm.slots) Q (F0 m (pc + 3) ls (out.toList ++ rest))) : W p l e R s m args below meth c H locs cells slots Q (F0 m pc ls st0) :=
  mm_run hh (va_runS (As := As) (rest := rest) (Ts := []) (cc := cc) (nL := nL) ⟨hx, hb, hml, hown, fun _ h => nomatch h⟩ hM cw ⟨va_blind, fun U hU hW => ⟨rfl, hh.at hE hU hW⟩⟩ rfl hn hl hst (lv_room hW) hdg hf) kk
theorem mm_SN {y : MethodName} {bytes : ByteArray} {maxL nL index n : Nat} {ret : Option FieldType} {own host : String} {As : List Value} {rm : Room} {out : Option Value} (hx : p.tables.exec = Jvm.exec) (hb : c.code = cc) (hml : c.maxLocals = nL) (hown : s.vm.findClass own = some m.cls) (hE : EX Γ b s) (hl : ls.size = nL)
    (hh : GH Γ b M mem s H locs) (cw : va_CN R s args own index y host bytes maxL ret [.code y bytes maxL ret] rm rm.cells rm.slots n ∧ (Cond.static y).before args s = true ∧ True) (hM : Ct l y (.code y bytes maxL ret) rm Γ b M As mem P out) (hn : As.length = n)
    (hst : st0 = As.reverse ++ rest) (hW : (rest.map fun v => v.category).sum ≤ 8) (hdg : decode cc pc = .ok (.invokestatic index, 3)) (hf : cells + rm.cells ≤ R.cells ∧ slots + rm.slots ≤ R.slots)
    (kk : ∀ (H1 : Heap) (locs1 : List Loc) (mem1 : Nat → va_E), P mem1 → GH Γ b M mem1 s H1 locs1 → W p l e R s m args below meth c H1 locs1 (cells + rm.cells) (slots + rm.slots) Q (F0 m (pc + 3) ls (out.toList ++ rest))) : W p l e R s m args below meth c H locs cells slots Q (F0 m pc ls st0) :=
  mm_run hh (va_runSN (As := As) (rest := rest) (Ts := []) (cc := cc) (nL := nL) ⟨hx, hb, hml, hown, fun _ h => nomatch h⟩ hM cw ⟨va_blind, fun U hU hW => ⟨rfl, hh.at hE hU hW⟩⟩ rfl hn hl hst (lv_room hW) hdg hf) kk
theorem mm_iret {v : Int32} {o : Value} {mc ms : Nat} (hx : p.tables.exec = Jvm.exec) (hb : c.code = cc) (hr : meth.sig.returnType = some .int) (hlocks : meth.locks = false) (hE : EX Γ b s) (hh : GH Γ b M mem s H locs) (ho : o = .int v) (hp : P mem) (hdg : decode cc pc = .ok (.ireturn, 1)) : W p l e R s m args below meth c H locs mc ms (MQ below (QC Γ b M P (some o)) args s mc ms (fun q => b ≤ q)) (F0 m pc ls [.int v]) :=
  W.iret hx hb hr (fun t ht hW => ⟨by rw [ho], ⟨mem, hp, hh.at hE ht hW⟩, hh.2.F ht⟩) hh.2.2.2 hdg hlocks
theorem mm_zret {v : Int32} {o : Value} {mc ms : Nat} (hx : p.tables.exec = Jvm.exec) (hb : c.code = cc) (hr : meth.sig.returnType = some .boolean) (hlocks : meth.locks = false) (hE : EX Γ b s) (hh : GH Γ b M mem s H locs) (ho : o = .int v) (hp : P mem) (hv : narrow .boolean (.int v) = .int v) (hdg : decode cc pc = .ok (.ireturn, 1)) : W p l e R s m args below meth c H locs mc ms (MQ below (QC Γ b M P (some o)) args s mc ms (fun q => b ≤ q)) (F0 m pc ls [.int v]) :=
  W.zret hx hb hr hv (fun t ht hW => ⟨by rw [ho], ⟨mem, hp, hh.at hE ht hW⟩, hh.2.F ht⟩) hh.2.2.2 hdg hlocks
theorem mm_vret {mc ms : Nat} (hx : p.tables.exec = Jvm.exec) (hb : c.code = cc) (hr : meth.sig.returnType = none) (hlocks : meth.locks = false) (hE : EX Γ b s) (hh : GH Γ b M mem s H locs) (hp : P mem) (hdg : decode cc pc = .ok (.return_, 1)) : W p l e R s m args below meth c H locs mc ms (MQ below (QC Γ b M P none) args s mc ms (fun q => b ≤ q)) (F0 m pc ls []) :=
  W.vret hx hb hr (fun t ht hW => ⟨rfl, ⟨mem, hp, hh.at hE ht hW⟩, hh.2.F ht⟩) hh.2.2.2 hdg hlocks
theorem mm_fret {v : UInt32} {o : Value} {mc ms : Nat} (hx : p.tables.exec = Jvm.exec) (hb : c.code = cc) (hr : meth.sig.returnType = some .float) (hlocks : meth.locks = false) (hE : EX Γ b s) (hh : GH Γ b M mem s H locs) (ho : o = .float v) (hp : P mem) (hdg : decode cc pc = .ok (.freturn, 1)) : W p l e R s m args below meth c H locs mc ms (MQ below (QC Γ b M P (some o)) args s mc ms (fun q => b ≤ q)) (F0 m pc ls [.float v]) :=
  W.fret hx hb hr (fun t ht hW => ⟨by rw [ho], ⟨mem, hp, hh.at hE ht hW⟩, hh.2.F ht⟩) hh.2.2.2 hdg hlocks
theorem mm_dret {v : UInt64} {o : Value} {mc ms : Nat} (hx : p.tables.exec = Jvm.exec) (hb : c.code = cc) (hr : meth.sig.returnType = some .double) (hlocks : meth.locks = false) (hE : EX Γ b s) (hh : GH Γ b M mem s H locs) (ho : o = .double v) (hp : P mem) (hdg : decode cc pc = .ok (.dreturn, 1)) : W p l e R s m args below meth c H locs mc ms (MQ below (QC Γ b M P (some o)) args s mc ms (fun q => b ≤ q)) (F0 m pc ls [.double v]) :=
  W.dret hx hb hr (fun t ht hW => ⟨by rw [ho], ⟨mem, hp, hh.at hE ht hW⟩, hh.2.F ht⟩) hh.2.2.2 hdg hlocks
theorem mm_aret {n : Nat} {o : Value} {mc ms : Nat} {C : String} (hx : p.tables.exec = Jvm.exec) (hb : c.code = cc) (hr : meth.sig.returnType = some (.object C)) (hlocks : meth.locks = false) (hE : EX Γ b s) (hh : GH Γ b M mem s H locs) (ho : o = .ref n) (hp : P mem) (hdg : decode cc pc = .ok (.areturn, 1)) : W p l e R s m args below meth c H locs mc ms (MQ below (QC Γ b M P (some o)) args s mc ms (fun q => b ≤ q)) (F0 m pc ls [.ref n]) :=
  W.aret hx hb hr (Or.inl ⟨_, rfl⟩) (Or.inr ⟨_, rfl⟩) (fun t ht hW => ⟨by rw [ho], ⟨mem, hp, hh.at hE ht hW⟩, hh.2.F ht⟩) hh.2.2.2 hdg hlocks
theorem mm_get (hx : p.tables.exec = Jvm.exec) (hb : c.code = cc) {own C : String} {T : u_T} {N ci index i : Nat} {fs : List Value} {v : Value} (hE : EX Γ b s) (hown : s.vm.findClass own = some m.cls) (hu : ∀ w ∈ u_ws C T N, w.before args s = true) (hc : vwCl[ci]? = some (C, T, N)) (k : Nat) (hk : k < N) (hlink : (Cond.fieldLink own index (T k).1 (T k).2.1 (T k).2.2.1).before args s = true)
    (hh : GH Γ b M mem s H locs) (hi : i < M) (hm : mem i = .inr (ci, fs)) (hv : fs[k]? = some v) (hdg : decode cc pc = .ok (.getfield index, 3)) (kk : W p l e R s m args below meth c H locs cells slots Q (F0 m (pc + 3) ls (v :: rest))) : W p l e R s m args below meth c H locs cells slots Q (F0 m pc ls (.ref (b + i) :: rest)) :=
  va_get (ref := (T k).1) (D := Γ.1) (ci := ci) hx hb (Ts := u_ws C T N) hu (fun _ h => h) hown hE.1 hh.1 i (gW_at hi hm) hc k hk hlink (fun _ h => h) hv hdg kk
theorem mm_put (hx : p.tables.exec = Jvm.exec) (hb : c.code = cc) {own C : String} {T : u_T} {N ci index i : Nat} {fs fs' : List Value} {v : Value} {ty : FieldType} (hE : EX Γ b s) (hown : s.vm.findClass own = some m.cls) (hu : ∀ w ∈ u_ws C T N, w.before args s = true) (hc : vwCl[ci]? = some (C, T, N)) (k : Nat) (hk : k < N) (hlink : (Cond.fieldLink own index (T k).1 (T k).2.1 (T k).2.2.1).before args s = true)
    (ty0 : Nat → FieldType) (hty : ∀ k, k < N → parseFieldDescriptor (T k).2.2.1 = some (ty0 k)) (hnm : ∀ a, a < N → ∀ b, b < N → a ≠ b → (T a).2.1 ≠ (T b).2.1) (hfin : (T k).2.2.2 = false) (hd : parseFieldDescriptor (T k).2.2.1 = some ty) (hnr : narrow ty v = v) (hfit : fits ty v = true)
    (hh : GH Γ b M mem s H locs) (hi : i < M) (hm : mem i = .inr (ci, fs)) (hl : k < fs.length) (hfs : fs.set k v = fs') (hdg : decode cc pc = .ok (.putfield index, 3)) (kk : ∀ (H1 : Heap) (locs1 : List Loc) (mem1 : Nat → va_E), mem1 i = (.inr (ci, fs')) → (∀ j, j ≠ i → mem1 j = mem j) → GH Γ b M mem1 s H1 locs1 → W p l e R s m args below meth c H1 locs1 cells slots Q (F0 m (pc + 3) ls rest)) : W p l e R s m args below meth c H locs cells slots Q (F0 m pc ls (v :: .ref (b + i) :: rest)) := by
  refine va_put (ref := (T k).1) (D := Γ.1) (ci := ci) hx hb (Ts := u_ws C T N) hu (fun _ h => h) ty0 hty hnm hown hE.1 hh.1 gW_D hh.2 i (gW_at hi hm) hc k hk hlink (fun _ h => h) hfin hd hnr hfit hl hdg (fun H1 locs1 h1 _ h3 => ?_)
  rw [gW_set hi, hfs] at h1
  exact kk H1 locs1 _ (if_pos rfl) (fun j hj => if_neg hj) ⟨h1, h3⟩
theorem mm_iald (hx : p.tables.exec = Jvm.exec) (hb : c.code = cc) (hE : EX Γ b s) (hh : GH Γ b M mem s H locs) {i n k : Nat} {f : Nat → Int32} (hi : i < M) (hm : mem i = aI Γ n f) (hk : k < n) (hn : n < 2 ^ 31) (hdg : decode cc pc = .ok (.iaload, 1))
    (kk : W p l e R s m args below meth c H locs cells slots Q (F0 m (pc + 1) ls (.int (f k) :: rest))) : W p l e R s m args below meth c H locs cells slots Q (F0 m pc ls (.int (nI k) :: .ref (b + i) :: rest)) :=
  va_iald hx hb hE.1 hh.1 i 0 (gW_at hi hm) rfl (vp_in_nI hk hn) hdg (by rw [nI_clamp (by omega)]; exact kk)
theorem mm_zald (hx : p.tables.exec = Jvm.exec) (hb : c.code = cc) (hE : EX Γ b s) (hh : GH Γ b M mem s H locs) {i n k : Nat} {f : Nat → Int32} (hi : i < M) (hm : mem i = aZ Γ n f) (hk : k < n) (hn : n < 2 ^ 31) (hdg : decode cc pc = .ok (.baload, 1))
    (kk : W p l e R s m args below meth c H locs cells slots Q (F0 m (pc + 1) ls (.int (f k) :: rest))) : W p l e R s m args below meth c H locs cells slots Q (F0 m pc ls (.int (nI k) :: .ref (b + i) :: rest)) :=
  va_zald hx hb hE.1 hh.1 i 3 (gW_at hi hm) rfl (vp_in_nI hk hn) hdg (by rw [nI_clamp (by omega)]; exact kk)
theorem mm_lald (hx : p.tables.exec = Jvm.exec) (hb : c.code = cc) (hE : EX Γ b s) (hh : GH Γ b M mem s H locs) {i n k : Nat} {f : Nat → Int64} (hi : i < M) (hm : mem i = aJ Γ n f) (hk : k < n) (hn : n < 2 ^ 31) (hdg : decode cc pc = .ok (.laload, 1))
    (kk : W p l e R s m args below meth c H locs cells slots Q (F0 m (pc + 1) ls (.long (f k) :: rest))) : W p l e R s m args below meth c H locs cells slots Q (F0 m pc ls (.int (nI k) :: .ref (b + i) :: rest)) :=
  va_lald hx hb hE.1 hh.1 i 4 (gW_at hi hm) rfl (vp_in_nI hk hn) hdg (by rw [nI_clamp (by omega)]; exact kk)
theorem mm_fald (hx : p.tables.exec = Jvm.exec) (hb : c.code = cc) (hE : EX Γ b s) (hh : GH Γ b M mem s H locs) {i n k : Nat} {f : Nat → UInt32} (hi : i < M) (hm : mem i = aF Γ n f) (hk : k < n) (hn : n < 2 ^ 31) (hdg : decode cc pc = .ok (.faload, 1))
    (kk : W p l e R s m args below meth c H locs cells slots Q (F0 m (pc + 1) ls (.float (f k) :: rest))) : W p l e R s m args below meth c H locs cells slots Q (F0 m pc ls (.int (nI k) :: .ref (b + i) :: rest)) :=
  va_fald hx hb hE.1 hh.1 i 1 (gW_at hi hm) rfl (vp_in_nI hk hn) hdg (by rw [nI_clamp (by omega)]; exact kk)
theorem mm_dald (hx : p.tables.exec = Jvm.exec) (hb : c.code = cc) (hE : EX Γ b s) (hh : GH Γ b M mem s H locs) {i n k : Nat} {f : Nat → UInt64} (hi : i < M) (hm : mem i = aD Γ n f) (hk : k < n) (hn : n < 2 ^ 31) (hdg : decode cc pc = .ok (.daload, 1))
    (kk : W p l e R s m args below meth c H locs cells slots Q (F0 m (pc + 1) ls (.double (f k) :: rest))) : W p l e R s m args below meth c H locs cells slots Q (F0 m pc ls (.int (nI k) :: .ref (b + i) :: rest)) :=
  va_dald hx hb hE.1 hh.1 i 2 (gW_at hi hm) rfl (vp_in_nI hk hn) hdg (by rw [nI_clamp (by omega)]; exact kk)
/-- an array of references, of any kind t0 of tyL -/
theorem mm_aald (hx : p.tables.exec = Jvm.exec) (hb : c.code = cc) (hE : EX Γ b s) (hh : GH Γ b M mem s H locs) (t0 : Nat) {i n k q : Nat} {ty : FieldType} {f : Nat → Option Nat} (hi : i < M) (hm : mem i = aR Γ t0 n f) (ht : (tyL Γ)[t0]? = some (Γ.2 t0, ty)) (hty : ty.isReference = true) (hk : k < n) (hn : n < 2 ^ 31) (hf : f k = some q) (hdg : decode cc pc = .ok (.aaload, 1))
    (kk : W p l e R s m args below meth c H locs cells slots Q (F0 m (pc + 1) ls (.ref q :: rest))) : W p l e R s m args below meth c H locs cells slots Q (F0 m pc ls (.int (nI k) :: .ref (b + i) :: rest)) := by
  have hc : (nI k).toNatClampNeg = k := nI_clamp (by omega)
  refine W.aald (v := va_rf (f k)) (ty := ty) hx hb (hh.1 i _ (gW_at hi hm)) ((hE.1.2 t0 _ ht).1 n (fun j => va_rf (f j))) hty (fun q => by cases q) (by show ¬ (nI k < 0 ∨ (arrV _ _ _).slots.size ≤ _); rw [arrV_size]; exact vp_in_nI hk hn) (by show (arrV _ _ _).slots[_]? = _; rw [hc, arrV_read _ _ hk]) rfl rfl hdg ?_
  rw [hf]
  exact kk
theorem mm_iast (hx : p.tables.exec = Jvm.exec) (hb : c.code = cc) (hE : EX Γ b s) (hh : GH Γ b M mem s H locs) {i n k : Nat} {f : Nat → Int32} {x : Int32} (hi : i < M) (hm : mem i = aI Γ n f) (hk : k < n) (hn : n < 2 ^ 31) (hdg : decode cc pc = .ok (.iastore, 1))
    (kk : ∀ (H1 : Heap) (locs1 : List Loc) (mem1 : Nat → va_E), mem1 i = (aI Γ n (va_up f k x)) → (∀ j, j ≠ i → mem1 j = mem j) → GH Γ b M mem1 s H1 locs1 → W p l e R s m args below meth c H1 locs1 cells slots Q (F0 m (pc + 1) ls rest)) : W p l e R s m args below meth c H locs cells slots Q (F0 m pc ls (.int x :: .int (nI k) :: .ref (b + i) :: rest)) := by
  refine va_iast hx hb hE.1 hh.1 gW_D hh.2 i 0 (gW_at hi hm) rfl (vp_in_nI hk hn) hdg (fun H1 locs1 h1 _ h3 => ?_)
  rw [gW_set hi, nI_clamp (by omega)] at h1
  exact kk H1 locs1 _ (if_pos rfl) (fun j hj => if_neg hj) ⟨h1, h3⟩
theorem mm_zast (hx : p.tables.exec = Jvm.exec) (hb : c.code = cc) (hE : EX Γ b s) (hh : GH Γ b M mem s H locs) {i n k : Nat} {f : Nat → Int32} {x : Int32} (hi : i < M) (hm : mem i = aZ Γ n f) (hk : k < n) (hn : n < 2 ^ 31) (hv : vp_nar .boolean x = x) (hdg : decode cc pc = .ok (.bastore, 1))
    (kk : ∀ (H1 : Heap) (locs1 : List Loc) (mem1 : Nat → va_E), mem1 i = (aZ Γ n (va_up f k x)) → (∀ j, j ≠ i → mem1 j = mem j) → GH Γ b M mem1 s H1 locs1 → W p l e R s m args below meth c H1 locs1 cells slots Q (F0 m (pc + 1) ls rest)) : W p l e R s m args below meth c H locs cells slots Q (F0 m pc ls (.int x :: .int (nI k) :: .ref (b + i) :: rest)) := by
  refine va_zast hx hb hE.1 hh.1 gW_D hh.2 i 3 (gW_at hi hm) rfl (vp_in_nI hk hn) hdg (fun H1 locs1 h1 _ h3 => ?_)
  rw [gW_set hi, nI_clamp (by omega), hv] at h1
  exact kk H1 locs1 _ (if_pos rfl) (fun j hj => if_neg hj) ⟨h1, h3⟩
theorem mm_last (hx : p.tables.exec = Jvm.exec) (hb : c.code = cc) (hE : EX Γ b s) (hh : GH Γ b M mem s H locs) {i n k : Nat} {f : Nat → Int64} {x : Int64} (hi : i < M) (hm : mem i = aJ Γ n f) (hk : k < n) (hn : n < 2 ^ 31) (hdg : decode cc pc = .ok (.lastore, 1))
    (kk : ∀ (H1 : Heap) (locs1 : List Loc) (mem1 : Nat → va_E), mem1 i = (aJ Γ n (va_up f k x)) → (∀ j, j ≠ i → mem1 j = mem j) → GH Γ b M mem1 s H1 locs1 → W p l e R s m args below meth c H1 locs1 cells slots Q (F0 m (pc + 1) ls rest)) : W p l e R s m args below meth c H locs cells slots Q (F0 m pc ls (.long x :: .int (nI k) :: .ref (b + i) :: rest)) := by
  refine va_last hx hb hE.1 hh.1 gW_D hh.2 i 4 (gW_at hi hm) rfl (vp_in_nI hk hn) hdg (fun H1 locs1 h1 _ h3 => ?_)
  rw [gW_set hi, nI_clamp (by omega)] at h1
  exact kk H1 locs1 _ (if_pos rfl) (fun j hj => if_neg hj) ⟨h1, h3⟩
theorem mm_fast (hx : p.tables.exec = Jvm.exec) (hb : c.code = cc) (hE : EX Γ b s) (hh : GH Γ b M mem s H locs) {i n k : Nat} {f : Nat → UInt32} {x : UInt32} (hi : i < M) (hm : mem i = aF Γ n f) (hk : k < n) (hn : n < 2 ^ 31) (hdg : decode cc pc = .ok (.fastore, 1))
    (kk : ∀ (H1 : Heap) (locs1 : List Loc) (mem1 : Nat → va_E), mem1 i = (aF Γ n (va_up f k x)) → (∀ j, j ≠ i → mem1 j = mem j) → GH Γ b M mem1 s H1 locs1 → W p l e R s m args below meth c H1 locs1 cells slots Q (F0 m (pc + 1) ls rest)) : W p l e R s m args below meth c H locs cells slots Q (F0 m pc ls (.float x :: .int (nI k) :: .ref (b + i) :: rest)) := by
  refine va_fast hx hb hE.1 hh.1 gW_D hh.2 i 1 (gW_at hi hm) rfl (vp_in_nI hk hn) hdg (fun H1 locs1 h1 _ h3 => ?_)
  rw [gW_set hi, nI_clamp (by omega)] at h1
  exact kk H1 locs1 _ (if_pos rfl) (fun j hj => if_neg hj) ⟨h1, h3⟩
theorem mm_dast (hx : p.tables.exec = Jvm.exec) (hb : c.code = cc) (hE : EX Γ b s) (hh : GH Γ b M mem s H locs) {i n k : Nat} {f : Nat → UInt64} {x : UInt64} (hi : i < M) (hm : mem i = aD Γ n f) (hk : k < n) (hn : n < 2 ^ 31) (hdg : decode cc pc = .ok (.dastore, 1))
    (kk : ∀ (H1 : Heap) (locs1 : List Loc) (mem1 : Nat → va_E), mem1 i = (aD Γ n (va_up f k x)) → (∀ j, j ≠ i → mem1 j = mem j) → GH Γ b M mem1 s H1 locs1 → W p l e R s m args below meth c H1 locs1 cells slots Q (F0 m (pc + 1) ls rest)) : W p l e R s m args below meth c H locs cells slots Q (F0 m pc ls (.double x :: .int (nI k) :: .ref (b + i) :: rest)) := by
  refine va_dast hx hb hE.1 hh.1 gW_D hh.2 i 2 (gW_at hi hm) rfl (vp_in_nI hk hn) hdg (fun H1 locs1 h1 _ h3 => ?_)
  rw [gW_set hi, nI_clamp (by omega)] at h1
  exact kk H1 locs1 _ (if_pos rfl) (fun j hj => if_neg hj) ⟨h1, h3⟩
theorem mm_V0 {y : MethodName} {bytes : ByteArray} {maxL nL index n ci i N : Nat} {ret : Option FieldType} {own C : String} {T : u_T} {As fs : List Value} {rm : Room} {out : Option Value} (hx : p.tables.exec = Jvm.exec) (hb : c.code = cc) (hml : c.maxLocals = nL) (hown : s.vm.findClass own = some m.cls) (hE : EX Γ b s) (hl : ls.size = nL)
    (hh : GH Γ b M mem s H locs) (cw : CallW R s args own C index y bytes maxL ret [.code y bytes maxL ret] rm rm.cells rm.slots n) (hM : Ct l y (.code y bytes maxL ret) rm Γ b M (.ref (b + i) :: As) mem P out) (hc : vwCl[ci]? = some (C, T, N)) (hi : i < M) (hm : mem i = .inr (ci, fs)) (hn : As.length = n)
    (hst : st0 = As.reverse ++ .ref (b + i) :: rest) (hW : (rest.map fun v => v.category).sum ≤ 8) (hdg : decode cc pc = .ok (.invokevirtual index, 3)) (h0 : rm.cells = 0) (h1 : rm.slots = 0)
    (kk : ∀ (H1 : Heap) (locs1 : List Loc) (mem1 : Nat → va_E), P mem1 → GH Γ b M mem1 s H1 locs1 → W p l e R s m args below meth c H1 locs1 0 0 Q (F0 m (pc + 3) ls (out.toList ++ rest))) : W p l e R s m args below meth c H locs 0 0 Q (F0 m pc ls st0) :=
  mm_V hx hb hml hown hE hl hh cw hM hc hi hm hn hst hW hdg ⟨by rw [h0]; exact Nat.zero_le _, by rw [h1]; exact Nat.zero_le _⟩ (by rw [h0, h1]; exact kk)
theorem mm_V0r {y : MethodName} {bytes : ByteArray} {maxL nL index n ci i N : Nat} {ret : Option FieldType} {own C : String} {T : u_T} {As fs : List Value} {rm : Room} {out : Option Value} (hx : p.tables.exec = Jvm.exec) (hb : c.code = cc) (hml : c.maxLocals = nL) (hown : s.vm.findClass own = some m.cls) (hE : EX Γ b s) (hl : ls.size = nL)
    (hh : GH Γ b M mem s H locs) (cw : CallW R s args own C index y bytes maxL ret [.code y bytes maxL ret] rm rm.cells rm.slots n) (hM : Ct l y (.code y bytes maxL ret) rm Γ b M (.ref (b + i) :: As) mem (fun u => u = mem) out) (hc : vwCl[ci]? = some (C, T, N)) (hi : i < M) (hm : mem i = .inr (ci, fs)) (hn : As.length = n)
    (hst : st0 = As.reverse ++ .ref (b + i) :: rest) (hW : (rest.map fun v => v.category).sum ≤ 8) (hdg : decode cc pc = .ok (.invokevirtual index, 3)) (h0 : rm.cells = 0) (h1 : rm.slots = 0)
    (kk : ∀ (H1 : Heap) (locs1 : List Loc), GH Γ b M mem s H1 locs1 → W p l e R s m args below meth c H1 locs1 0 0 Q (F0 m (pc + 3) ls (out.toList ++ rest))) : W p l e R s m args below meth c H locs 0 0 Q (F0 m pc ls st0) :=
  mm_V0 hx hb hml hown hE hl hh cw hM hc hi hm hn hst hW hdg h0 h1 (fun H1 l1 m1 e1 h => kk H1 l1 (by rw [← e1]; exact h))
theorem mm_S0 {y : MethodName} {bytes : ByteArray} {maxL nL index n : Nat} {ret : Option FieldType} {own : String} {As : List Value} {rm : Room} {out : Option Value} (hx : p.tables.exec = Jvm.exec) (hb : c.code = cc) (hml : c.maxLocals = nL) (hown : s.vm.findClass own = some m.cls) (hE : EX Γ b s) (hl : ls.size = nL)
    (hh : GH Γ b M mem s H locs) (cw : CallB R s args own index y bytes maxL ret [.code y bytes maxL ret] rm rm.cells rm.slots n ∧ (Cond.static y).before args s = true) (hM : Ct l y (.code y bytes maxL ret) rm Γ b M As mem P out) (hn : As.length = n)
    (hst : st0 = As.reverse ++ rest) (hW : (rest.map fun v => v.category).sum ≤ 8) (hdg : decode cc pc = .ok (.invokestatic index, 3)) (h0 : rm.cells = 0) (h1 : rm.slots = 0)
    (kk : ∀ (H1 : Heap) (locs1 : List Loc) (mem1 : Nat → va_E), P mem1 → GH Γ b M mem1 s H1 locs1 → W p l e R s m args below meth c H1 locs1 0 0 Q (F0 m (pc + 3) ls (out.toList ++ rest))) : W p l e R s m args below meth c H locs 0 0 Q (F0 m pc ls st0) :=
  mm_S hx hb hml hown hE hl hh cw hM hn hst hW hdg ⟨by rw [h0]; exact Nat.zero_le _, by rw [h1]; exact Nat.zero_le _⟩ (by rw [h0, h1]; exact kk)
theorem mm_S0r {y : MethodName} {bytes : ByteArray} {maxL nL index n : Nat} {ret : Option FieldType} {own : String} {As : List Value} {rm : Room} {out : Option Value} (hx : p.tables.exec = Jvm.exec) (hb : c.code = cc) (hml : c.maxLocals = nL) (hown : s.vm.findClass own = some m.cls) (hE : EX Γ b s) (hl : ls.size = nL)
    (hh : GH Γ b M mem s H locs) (cw : CallB R s args own index y bytes maxL ret [.code y bytes maxL ret] rm rm.cells rm.slots n ∧ (Cond.static y).before args s = true) (hM : Ct l y (.code y bytes maxL ret) rm Γ b M As mem (fun u => u = mem) out) (hn : As.length = n)
    (hst : st0 = As.reverse ++ rest) (hW : (rest.map fun v => v.category).sum ≤ 8) (hdg : decode cc pc = .ok (.invokestatic index, 3)) (h0 : rm.cells = 0) (h1 : rm.slots = 0)
    (kk : ∀ (H1 : Heap) (locs1 : List Loc), GH Γ b M mem s H1 locs1 → W p l e R s m args below meth c H1 locs1 0 0 Q (F0 m (pc + 3) ls (out.toList ++ rest))) : W p l e R s m args below meth c H locs 0 0 Q (F0 m pc ls st0) :=
  mm_S0 hx hb hml hown hE hl hh cw hM hn hst hW hdg h0 h1 (fun H1 l1 m1 e1 h => kk H1 l1 (by rw [← e1]; exact h))
theorem mm_SN0r {y : MethodName} {bytes : ByteArray} {maxL nL index n : Nat} {ret : Option FieldType} {own host : String} {As : List Value} {rm : Room} {out : Option Value} (hx : p.tables.exec = Jvm.exec) (hb : c.code = cc) (hml : c.maxLocals = nL) (hown : s.vm.findClass own = some m.cls) (hE : EX Γ b s) (hl : ls.size = nL)
    (hh : GH Γ b M mem s H locs) (cw : va_CN R s args own index y host bytes maxL ret [.code y bytes maxL ret] rm rm.cells rm.slots n ∧ (Cond.static y).before args s = true ∧ True) (hM : Ct l y (.code y bytes maxL ret) rm Γ b M As mem (fun u => u = mem) out) (hn : As.length = n)
    (hst : st0 = As.reverse ++ rest) (hW : (rest.map fun v => v.category).sum ≤ 8) (hdg : decode cc pc = .ok (.invokestatic index, 3)) (h0 : rm.cells = 0) (h1 : rm.slots = 0)
    (kk : ∀ (H1 : Heap) (locs1 : List Loc), GH Γ b M mem s H1 locs1 → W p l e R s m args below meth c H1 locs1 0 0 Q (F0 m (pc + 3) ls (out.toList ++ rest))) : W p l e R s m args below meth c H locs 0 0 Q (F0 m pc ls st0) :=
  mm_SN hx hb hml hown hE hl hh cw hM hn hst hW hdg ⟨by rw [h0]; exact Nat.zero_le _, by rw [h1]; exact Nat.zero_le _⟩ (fun H1 l1 m1 e1 h => by rw [h0, h1]; exact kk H1 l1 (by rw [← e1]; exact h))
/-- a call whose named method is abstract -/
theorem mm_VU0r {x y : MethodName} {bytes : ByteArray} {maxL nL index n ci i N : Nat} {ret : Option FieldType} {own C owner : String} {T : u_T} {As fs : List Value} {rm : Room} {out : Option Value} (hx : p.tables.exec = Jvm.exec) (hb : c.code = cc) (hml : c.maxLocals = nL) (hown : s.vm.findClass own = some m.cls) (hE : EX Γ b s) (hl : ls.size = nL)
    (hh : GH Γ b M mem s H locs) (cw : va_CU R s args own C owner index x y bytes maxL ret [.code y bytes maxL ret] rm rm.cells rm.slots n) (hM : Ct l y (.code y bytes maxL ret) rm Γ b M (.ref (b + i) :: As) mem (fun u => u = mem) out) (hc : vwCl[ci]? = some (C, T, N)) (hi : i < M) (hm : mem i = .inr (ci, fs)) (hn : As.length = n)
    (hst : st0 = As.reverse ++ .ref (b + i) :: rest) (hW : (rest.map fun v => v.category).sum ≤ 8) (hdg : decode cc pc = .ok (.invokevirtual index, 3)) (h0 : rm.cells = 0) (h1 : rm.slots = 0)
    (kk : ∀ (H1 : Heap) (locs1 : List Loc), GH Γ b M mem s H1 locs1 → W p l e R s m args below meth c H1 locs1 0 0 Q (F0 m (pc + 3) ls (out.toList ++ rest))) : W p l e R s m args below meth c H locs 0 0 Q (F0 m pc ls st0) :=
  mm_run hh (va_runU (As := As) (rest := rest) (Ts := []) (cc := cc) (nL := nL) ⟨hx, hb, hml, hown, fun _ h => nomatch h⟩ hM cw ⟨va_blind, va_recv hE.1 hh.1 hc (gW_at hi hm), fun U hU hW => ⟨rfl, hh.at hE hU hW⟩⟩ rfl hn hl hst (lv_room hW) hdg ⟨by rw [h0]; exact Nat.zero_le _, by rw [h1]; exact Nat.zero_le _⟩) (fun H1 l1 m1 e1 h => by rw [h0, h1]; exact kk H1 l1 (by rw [← e1]; exact h))
end MM
