/-! THE LAW: its calls one by one. (The rows R_law .. lw_At are the skeleton's.) -/
def R_law : String := "HybridSearchLaw"
def lw_P (b : Addr) (xs : List Int32) (args : Array Value) (s : State) : Prop := args = #[.ref b] ∧ s.IntsAt b xs ∧ xs.length ≤ 3072 ∧ (Jvm.Cond.and given_1 narrow_1).before args s = true
def lw_Q (_ : Array Value) (s : State) (o : Outcome) (t : State) : Prop := o = .returned (some (.int 1)) ∧ Framed s o t [] 601024 7293034
def lw_Z (below : List Frame) (a : Array Value) (s : State) : State → Prop := fun t => ∃ o, t.status = .running ∧ Ended t below o ∧ lw_Q a s o t
/-- the law's own end, with 1 on the stack, nothing written that was there before, its room as the claim has it -/
theorem lw_ret {p : Program} {l : Launch} {e : Env} {s : State} {m : MethodId} {below : List Frame} {meth : Method} {c : Code} {b : Nat} (hx : p.tables.exec = Jvm.exec) (hb : c.code = code) (hr : meth.sig.returnType = ret) (hlocks : meth.locks = false) {pc : Nat} {H : Heap} {ls : Array Slot} (hdg : decode code pc = .ok (.ireturn, 1)) : W p l e room_1 s m #[Value.ref b] below meth c H [] 601024 7293034 (lw_Z below #[Value.ref b] s) (F0 m pc ls [.int 1]) := by
  intro T hT X
  obtain ⟨fs, hret, hrun, hended, hW, hframe⟩ := X.leave (v := some (.int 1)) (hlocks := hlocks) (fun h => by rw [hr] at h; cases h)
  have hmeth' : T.vm.method? m = some meth := X.method'
  refine ⟨T.setFrames fs, ?_, .returned (some (.int 1)), hrun, hended, rfl, ⟨_, rfl⟩, hW, hframe⟩
  jvm_step X.here [X.here.top, hx, hb, hdg, hmeth', hr, ret, narrow_b1]
  (try refine ⟨rfl, ?_⟩); (try refine ⟨rfl, ?_⟩)
  first | (intro acts; rw [hret _ acts rfl rfl rfl]) | rw [hret _ _ rfl rfl rfl]
  exact Steps.refl _
/-- what holds at the law's entry: the machine, the code, the tables' words (any of lw_tbl by 'hts w (by decide +kernel)'), the script of L ints xs at the cell b, what the Statement gives of the start (any of its parts by flat_of_before) -/
def lw_At (p : Program) (s : State) (m : MethodId) (meth : Method) (c : Code) (b L : Nat) (xs : Nat → Int32) : Prop :=
  p.tables.exec = Jvm.exec ∧ c.code = code ∧ meth.sig.returnType = ret ∧ c.maxLocals = 10 ∧ s.vm.findClass R_law = some m.cls ∧ (∀ w ∈ lw_tbl, w.before #[Value.ref b] s = true) ∧ va_X b L xs s s.heap ∧ b < s.heap.size ∧ meth.locks = false ∧ (Jvm.Cond.and given_1 narrow_1).before #[Value.ref b] s = true
def LwC (p : Program) (l : Launch) (s : State) (m : MethodId) (meth : Method) (c : Code) (sa L : Nat) (xs : Nat → Int32) (Γ : Gm) (b : Nat) : Prop := p.tables.exec = Jvm.exec ∧ c.code = code ∧ meth.sig.returnType = ret ∧ meth.locks = false ∧ c.maxLocals = 10 ∧ s.vm.findClass RL = some m.cls ∧ EX Γ b s ∧ va_X sa L xs s s.heap ∧ sa < s.heap.size ∧ b = s.heap.size ∧ L ≤ 3072 ∧ l.stackTraces = false
theorem lg_self (x : Int64) : lg_cmp x x = 0 := by
  unfold lg_cmp
  rw [if_neg (Int64.lt_irrefl), if_pos rfl]
theorem fm_n (v : Int32) : vf_n32 (FP.fmul (FP.i2f v) 1040187392) := ((fb_i2f v).mul (show fb 125 1040187392 by unfold fb; decide) (by decide) (by decide)).n (by decide)
theorem dm_b (v : Int32) : db 1055 (FP.dmul (FP.i2d v) 4593671619917905920) := ((db_i2d v).mul (show db 1021 4593671619917905920 by unfold db; decide) (by decide) (by decide)).up (by decide)
theorem dm_n (v : Int32) : vf_n64 (FP.dmul (FP.i2d v) 4593671619917905920) := (dm_b v).n (by decide)
theorem log_ok (v : Int32) : rge (FP.dcmp (FP.dmul (FP.i2d v) 4593671619917905920) FP.dconst1) → rle (FP.dcmp (FP.dmul (FP.i2d v) 4593671619917905920) 9218868437227405311) → lgOK (FP.dmul (FP.i2d v) 4593671619917905920) := by
  intro h1 _
  have hb := dm_b v
  generalize FP.dmul (FP.i2d v) 4593671619917905920 = x at h1 hb
  have n1 : FP.Core.val64 FP.dconst1 ≠ .nan := by rw [FP.Core.ne_nan]; decide
  have nx := hb.nn (by decide)
  have e1 : FP.Core.dkey FP.dconst1 = 1023 * 2 ^ 52 := by decide +kernel
  have k : FP.Core.dkey FP.dconst1 ≤ FP.Core.dkey x := by
    rcases h1 with h1 | h1
    · have := (FP.Core.dcmp_gt_key nx n1).mp h1; omega
    · have := (FP.Core.dcmp_eq_key nx n1).mp h1; omega
  rw [e1] at k
  unfold FP.Core.dkey at k
  unfold db at hb
  unfold lgOK
  have := x.toNat_lt
  split at k <;> omega
section LV9
variable {p : Program} {l : Launch} {e : Env} {R : Room} {s : State} {m : MethodId} {args : Array Value} {below : List Frame} {meth : Method} {c : Code} {H : Heap} {locs : List Loc} {cells slots : Nat} {Q : State → Prop}
variable {cc : ByteArray} {pc : Nat} {ls : Array Slot} {rest st0 : List Value} {Γ : Gm} {b M : Nat} {mem : Nat → va_E} {P : (Nat → va_E) → Prop}
theorem lw_V {y : MethodName} {bytes : ByteArray} {maxL nL index n ci i N : Nat} {rt : Option FieldType} {own C : String} {T : u_T} {As fs : List Value} {rm : Room} {out : Option Value} (hx : p.tables.exec = Jvm.exec) (hb : c.code = cc) (hml : c.maxLocals = nL) (hown : s.vm.findClass own = some m.cls) (hE : EX Γ b s) (hl : ls.size = nL)
    (hh : GH Γ b M mem s H locs) (cw : CallW R s args own C index y bytes maxL rt [.code y bytes maxL rt] rm rm.cells rm.slots n) (hM : Ct l y (.code y bytes maxL rt) rm Γ b M (.ref (b + i) :: As) mem P out) (hc : vwCl[ci]? = some (C, T, N)) (hi : i < M) (hm : mem i = .inr (ci, fs)) (hn : As.length = n)
    (hst : st0 = As.reverse ++ .ref (b + i) :: rest) (hW : (rest.map fun v => v.category).sum ≤ 8) (hdg : decode cc pc = .ok (.invokevirtual index, 3)) (h0 : rm.cells = 0 ∧ rm.slots = 0) (hcs : cells ≤ R.cells ∧ slots ≤ R.slots)
    (kk : ∀ (H1 : Heap) (locs1 : List Loc) (mem1 : Nat → va_E), P mem1 → GH Γ b M mem1 s H1 locs1 → W p l e R s m args below meth c H1 locs1 cells slots Q (F0 m (pc + 3) ls (out.toList ++ rest))) : W p l e R s m args below meth c H locs cells slots Q (F0 m pc ls st0) :=
  mm_V hx hb hml hown hE hl hh cw hM hc hi hm hn hst hW hdg ⟨by rw [h0.1]; exact hcs.1, by rw [h0.2]; exact hcs.2⟩ (by rw [h0.1, h0.2]; exact kk)
theorem lw_sld {sa L k : Nat} {xs : Nat → Int32} (hx : p.tables.exec = Jvm.exec) (hb : c.code = cc) (hX : va_X sa L xs s s.heap) (hsl : sa < s.heap.size) (hbz : b = s.heap.size) (hh : GH Γ b M mem s H locs) (hk : k < L) (hL : L ≤ 3072) (hdg : decode cc pc = .ok (.iaload, 1)) (kk : W p l e R s m args below meth c H locs cells slots Q (F0 m (pc + 1) ls (.int (xs k) :: rest))) : W p l e R s m args below meth c H locs cells slots Q (F0 m pc ls (.int (nI k) :: .ref sa :: rest)) :=
  va_sld hx hb hX hsl (by omega) hh.2 (vp_in_nI hk (by omega)) hdg (by rw [nI_clamp (by omega)]; exact kk)
end LV9
section LWS
variable {p : Program} {l : Launch} {e : Env} {s : State} {m : MethodId} {below : List Frame} {meth : Method} {c : Code} {sa L : Nat} {xs : Nat → Int32} {Γ : Gm} {b i cells slots : Nat} {H : Heap} {locs : List Loc} {mem : Nat → va_E} {ls : Array Slot}
def LK (p : Program) (l : Launch) (e : Env) (s : State) (m : MethodId) (below : List Frame) (meth : Method) (c : Code) (sa : Nat) (Γ : Gm) (b i cells slots : Nat) : Prop := ∀ (H : Heap) (locs : List Loc) (mem : Nat → va_E) (ls : Array Slot), Inv Γ b mem → GH Γ b 138 mem s H locs → lv_has ls 10 [(5, .int (nI i)), (0, .ref sa), (1, .ref (b + 0)), (2, .ref (b + 115)), (3, .ref (b + 136)), (4, .ref (b + 137))] → W p l e room_1 s m #[Value.ref sa] below meth c H locs (cells + 1) (slots + 6) (lw_Z below #[Value.ref sa] s) (F0 m 1468 ls [])
end LWS
theorem or_log (l : Launch) (Γ : Gm) (b : Nat) (mem : Nat → va_E) {cd : Nat} {nd : Nat} {cn : Nat → Nat → Nat} {wt : Nat → Nat → UInt32} {tz : Nat → Nat} {tf : Nat → Nat → UInt32} {cz : Nat} {cf : Nat → UInt32} {wz : Nat} {wm : Nat → Nat} {iz : Nat} {im iw : Nat → Nat} {vz : Nat} {vf : Nat → UInt32} {mh : Nat → Bool} {ml mli : Nat → Nat} {msc : Nat → UInt64} {mwk : Nat → Nat} {fc : Nat} {mf : Nat → Nat} {mfs : Nat → UInt64} {x : UInt64} (h : IR Γ b mem cd nd cn wt tz tf cz cf wz wm iz im iw vz vf mh ml mli msc mwk fc mf mfs) (hlo : rge (FP.dcmp x FP.dconst1) → rle (FP.dcmp x 9218868437227405311) → lgOK x) : MdI l Γ b yX10_log (.code yX10_log cX10_log 3 (some .double)) [.ref (b + 115), .double x] mem (some (.double (lgX x))) (fun u => IR Γ b u 0 nd cn wt tz tf cz cf wz wm iz im iw vz vf mh ml mli msc mwk fc mf mfs) := by
  obtain ⟨md, wh, sd, sk, ps, mr, mrs, mal, mas, fM, g116, g117, g118, g119, g120, g121, g122, g123, g124, g125, g126, g127, g128, g129, g130, g131, g132, g133, g134, g135, hmr, hmal⟩ := h
  refine ⟨_, _, ⟨⟨rfl, rfl⟩, Nat.le_of_ble_eq_true rfl, Nat.le_of_ble_eq_true rfl⟩, m_log l Γ b 138 mem (cd := cd) (nd := nd) (cz := cz) (wz := wz) (iz := iz) (vz := vz) (md := md) (wh := wh) (sd := sd) (sk := sk) (ps := ps) (fc := fc) (x := x) (by decide) fM hlo, ?_⟩
  rintro u ⟨p0, kf⟩
  exact ⟨⟨md, wh, sd, sk, ps, mr, mrs, mal, mas, p0, (kf _ (by decide)).trans g116, (kf _ (by decide)).trans g117, (kf _ (by decide)).trans g118, (kf _ (by decide)).trans g119, (kf _ (by decide)).trans g120, (kf _ (by decide)).trans g121, (kf _ (by decide)).trans g122, (kf _ (by decide)).trans g123, (kf _ (by decide)).trans g124, (kf _ (by decide)).trans g125, (kf _ (by decide)).trans g126, (kf _ (by decide)).trans g127, (kf _ (by decide)).trans g128, (kf _ (by decide)).trans g129, (kf _ (by decide)).trans g130, (kf _ (by decide)).trans g131, (kf _ (by decide)).trans g132, (kf _ (by decide)).trans g133, (kf _ (by decide)).trans g134, (kf _ (by decide)).trans g135, hmr, hmal⟩, fun j hj => kf j (by omega)⟩
theorem op_log (l : Launch) (Γ : Gm) (b : Nat) (mem : Nat → va_E) (h : Inv Γ b mem) (x : UInt64) (hlo : rge (FP.dcmp x FP.dconst1) → rle (FP.dcmp x 9218868437227405311) → lgOK x) : ∃ (rm : Room) (P : (Nat → va_E) → Prop), RmOK rm ∧ (∃ fs, mem 115 = .inr (9, fs)) ∧ Ct l yX10_log (.code yX10_log cX10_log 3 (some .double)) rm Γ b 138 [.ref (b + 115), .double x] mem P (some (.double (lgX x))) ∧ ∀ u, P u → Inv Γ b u := by
  obtain ⟨cd, nd, cn, ln, wt, tz, tf, cz, cf, wz, wm, iz, im, iw, vz, vf, lst, lrk, ldc, lsc, sf, fdc, fsc, mh, ml, mli, msc, mwk, fc, mf, mfs, hC, hR, hD, hL, hF, ho, hq⟩ := h
  obtain ⟨rm, P, h1, h2, h3⟩ := or_log l Γ b mem hR (x := x) hlo
  have h4 := IR_MOk hR
  obtain ⟨_, _, _, _, _, _, _, _, _, _, _, h4⟩ := h4
  refine ⟨rm, P, h1, ⟨_, h4⟩, h2, fun u hu => ?_⟩
  obtain ⟨g2, f2⟩ := h3 u hu
  exact ⟨_, nd, cn, ln, wt, tz, tf, cz, cf, wz, wm, iz, im, iw, vz, vf, lst, lrk, ldc, lsc, sf, fdc, fsc, mh, ml, mli, msc, mwk, fc, mf, mfs, IC_frame hC (fun j hj => f2 j (Or.inl hj)), g2, hD, hL, hF, ⟨ho.choose, (f2 136 (Or.inr (by decide))).trans ho.choose_spec⟩, ⟨hq.choose, (f2 137 (Or.inr (by decide))).trans hq.choose_spec⟩⟩
theorem Inv_0 {Γ : Gm} {b : Nat} {mem : Nat → va_E} (h : Inv Γ b mem) : ∃ fs, mem 0 = .inr (8, fs) := by
  obtain ⟨cd, nd, cn, ln, wt, tz, tf, cz, cf, wz, wm, iz, im, iw, vz, vf, lst, lrk, ldc, lsc, sf, fdc, fsc, mh, ml, mli, msc, mwk, fc, mf, mfs, hC, -⟩ := h
  obtain ⟨ww, pn, pt, bd, near, wa, lim2, ssz, sdc, ssc, lf, to, mb, fH, -⟩ := hC
  exact ⟨_, fH⟩
section LWT
variable {p : Program} {l : Launch} {e : Env} {s : State} {m : MethodId} {below : List Frame} {meth : Method} {c : Code} {sa L : Nat} {xs : Nat → Int32} {Γ : Gm} {b i cells slots : Nat} {H : Heap} {locs : List Loc} {mem : Nat → va_E} {ls : Array Slot}
set_option maxHeartbeats 4000000 in
set_option maxRecDepth 100000 in
/-- the law: document -/
theorem sg_0 (C : LwC p l s m meth c sa L xs Γ b) (hi : i + 6 ≤ L) (hcs : cells + 1 ≤ 601024 ∧ slots + 6 ≤ 7293034) (hI : Inv Γ b mem) (hh : GH Γ b 138 mem s H locs) (hl : lv_has ls 10 [(5, .int (nI i)), (0, .ref sa), (1, .ref (b + 0)), (2, .ref (b + 115)), (3, .ref (b + 136)), (4, .ref (b + 137))]) (kk : LK p l e s m below meth c sa Γ b i cells slots) : W p l e room_1 s m #[Value.ref sa] below meth c H locs cells slots (lw_Z below #[Value.ref sa] s) (F0 m 132 ls []) := by
  obtain ⟨hx, hb, hr, hlocks, hml, hown, hE, hX, hsl, hbz, hL, hlst⟩ := C
  obtain ⟨k, r, P, hk, hw, hQ⟩ := op_document l hlst Γ b mem hI 
  refine lv_aload_n hx hb dL_law_132 rfl (lv_at hl 2 rfl) ?_
  refine lv_aload_n hx hb dL_law_133 rfl (lv_at hl 4 rfl) ?_
  refine mw_S (As := [.ref (b + 0), .ref (b + 136)]) (rest := []) hx hb hml hown hE hl.1 hh (kw_document hE.2.1 ⟨Nat.le_of_ble_eq_true rfl, Nat.le_of_ble_eq_true rfl⟩) hw rfl rfl (Nat.le_of_ble_eq_true rfl) dL_law_134 ⟨by show cells + 1 ≤ 601024; exact hcs.1, by show slots + 6 ≤ 7293034; exact hcs.2⟩ (fun H locs mem1 hP hh => ?_)
  obtain ⟨rm, P2, hrm, ⟨fs, f1⟩, hm, hZ⟩ := hQ mem1 hP
  refine lv_istore (lv' := [(6, .int (nI k)), (5, .int (nI i)), (0, .ref sa), (1, .ref (b + 0)), (2, .ref (b + 115)), (3, .ref (b + 136)), (4, .ref (b + 137))]) hx hb dL_law_137 hl (by decide) rfl (fun ls hl => ?_)
  refine lv_aload_n hx hb dL_law_139 rfl (lv_at hl 4 rfl) ?_
  refine lw_V (As := []) (rest := []) hx hb hml hown hE hl.1 hh (kc_L_83 hE.2.1 ⟨by show _ ≤ 12; have := hrm.2.1; omega, by show _ ≤ 430; have := hrm.2.2; omega⟩) hm rfl (by decide) f1 rfl rfl (Nat.le_of_ble_eq_true rfl) dL_law_140 hrm.1 ⟨by show cells + 1 ≤ 601024; exact hcs.1, by show slots + 6 ≤ 7293034; exact hcs.2⟩ (fun H locs mem2 hP2 hh => ?_)
  obtain ⟨hI2, hk2, hres⟩ := hZ mem2 hP2
  obtain ⟨_, _, _, _, _, _, _, _, _, _, _, fM⟩ := hk2
  refine lv_istore (lv' := [(7, .int r), (6, .int (nI k)), (5, .int (nI i)), (0, .ref sa), (1, .ref (b + 0)), (2, .ref (b + 115)), (3, .ref (b + 136)), (4, .ref (b + 137))]) hx hb dL_law_143 hl (by decide) rfl (fun ls hl => ?_)
  refine lv_aload_n hx hb dL_law_145 rfl (lv_at hl 5 rfl) ?_
  refine lw_V (As := []) (rest := []) hx hb hml hown hE hl.1 hh (kc_L_84 hE.2.1 ⟨Nat.le_of_ble_eq_true rfl, Nat.le_of_ble_eq_true rfl⟩) (c_X10_thrown l Γ b 138 mem2 (by decide) fM) rfl (by decide) fM rfl rfl (Nat.le_of_ble_eq_true rfl) dL_law_146 ⟨rfl, rfl⟩ ⟨by show cells + 1 ≤ 601024; exact hcs.1, by show slots + 6 ≤ 7293034; exact hcs.2⟩ (fun H locs mem3 e3 hh => ?_)
  rw [e3] at hh
  refine lv_iload hx hb dL_law_149 (lv_at hl 1 rfl) ?_
  refine nn_icmp_eq (tgt := 156) hx hb dL_law_151 (by decide) (by omega) (by omega) (fun _ => ?_) (fun h => absurd rfl h)
  refine lv_iload hx hb dL_law_156 (lv_at hl 1 rfl) ?_
  refine nn_if_ne (tgt := 173) hx hb dL_law_158 (by decide) (by omega) (fun _ => ?_) (fun hz => ?_)
  · refine lv_goto (tgt := 1468) hx hb dL_law_173 (by decide) ?_
    exact kk _ _ _ _ hI2 hh (lv_sub hl [2, 3, 4, 5, 6, 7] rfl)
  · obtain ⟨f, hf1, hf2⟩ := hres hz
    refine lv_aload_n hx hb dL_law_161 rfl (lv_at hl 6 rfl) ?_
    refine lv_iconst (v := (nI 0)) hx hb dL_law_162 (by decide) ?_
    refine mm_lald hx hb hE hh (k := 0) (by decide) hf1 (by decide) (by decide) dL_law_163 ?_
    rw [hf2]
    refine lv_iload hx hb dL_law_164 (lv_at hl 0 rfl) ?_
    refine lv_i2l hx hb dL_law_166 rfl ?_
    refine W.lcmp hx hb dL_law_167 ?_
    rw [lg_self]
    refine lv_if_eq (tgt := 173) hx hb dL_law_168 (by decide) (fun _ => ?_) (fun h => absurd rfl h)
    refine lv_goto (tgt := 1468) hx hb dL_law_173 (by decide) ?_
    exact kk _ _ _ _ hI2 hh (lv_sub hl [2, 3, 4, 5, 6, 7] rfl)
set_option maxHeartbeats 4000000 in
set_option maxRecDepth 100000 in
/-- the law: count -/
theorem sg_1 (C : LwC p l s m meth c sa L xs Γ b) (hi : i + 6 ≤ L) (hcs : cells + 1 ≤ 601024 ∧ slots + 6 ≤ 7293034) (hI : Inv Γ b mem) (hh : GH Γ b 138 mem s H locs) (hl : lv_has ls 10 [(5, .int (nI i)), (0, .ref sa), (1, .ref (b + 0)), (2, .ref (b + 115)), (3, .ref (b + 136)), (4, .ref (b + 137))]) (kk : LK p l e s m below meth c sa Γ b i cells slots) : W p l e room_1 s m #[Value.ref sa] below meth c H locs cells slots (lw_Z below #[Value.ref sa] s) (F0 m 176 ls []) := by
  obtain ⟨hx, hb, hr, hlocks, hml, hown, hE, hX, hsl, hbz, hL, hlst⟩ := C
  obtain ⟨k, r, P, hk, hw, hQ⟩ := op_count l hlst Γ b mem hI (xs (i + 1)) (xs (i + 2))
  refine lv_aload_n hx hb dL_law_176 rfl (lv_at hl 2 rfl) ?_
  refine lv_aload_n hx hb dL_law_177 rfl (lv_at hl 1 rfl) ?_
  refine lv_iload hx hb dL_law_178 (lv_at hl 0 rfl) ?_
  refine lv_iconst (v := (nI 1)) hx hb dL_law_180 (by decide) ?_
  refine nn_iadd hx hb dL_law_181 ?_
  refine lw_sld hx hb hX hsl hbz hh (k := i + 1) (by omega) hL dL_law_182 ?_
  refine lv_aload_n hx hb dL_law_183 rfl (lv_at hl 1 rfl) ?_
  refine lv_iload hx hb dL_law_184 (lv_at hl 0 rfl) ?_
  refine lv_iconst (v := (nI 2)) hx hb dL_law_186 (by decide) ?_
  refine nn_iadd hx hb dL_law_187 ?_
  refine lw_sld hx hb hX hsl hbz hh (k := i + 2) (by omega) hL dL_law_188 ?_
  refine lv_aload_n hx hb dL_law_189 rfl (lv_at hl 4 rfl) ?_
  refine mw_S (As := [.ref (b + 0), .int (xs (i + 1)), .int (xs (i + 2)), .ref (b + 136)]) (rest := []) hx hb hml hown hE hl.1 hh (kw_count hE.2.1 ⟨Nat.le_of_ble_eq_true rfl, Nat.le_of_ble_eq_true rfl⟩) hw rfl rfl (Nat.le_of_ble_eq_true rfl) dL_law_190 ⟨by show cells + 1 ≤ 601024; exact hcs.1, by show slots + 6 ≤ 7293034; exact hcs.2⟩ (fun H locs mem1 hP hh => ?_)
  obtain ⟨rm, P2, hrm, ⟨fs, f1⟩, hm, hZ⟩ := hQ mem1 hP
  refine lv_istore (lv' := [(6, .int (nI k)), (5, .int (nI i)), (0, .ref sa), (1, .ref (b + 0)), (2, .ref (b + 115)), (3, .ref (b + 136)), (4, .ref (b + 137))]) hx hb dL_law_193 hl (by decide) rfl (fun ls hl => ?_)
  refine lv_aload_n hx hb dL_law_195 rfl (lv_at hl 4 rfl) ?_
  refine lv_aload_n hx hb dL_law_196 rfl (lv_at hl 2 rfl) ?_
  refine lv_iload hx hb dL_law_197 (lv_at hl 1 rfl) ?_
  refine lv_iconst (v := (nI 1)) hx hb dL_law_199 (by decide) ?_
  refine nn_iadd hx hb dL_law_200 ?_
  refine lw_sld hx hb hX hsl hbz hh (k := i + 1) (by omega) hL dL_law_201 ?_
  refine lv_aload_n hx hb dL_law_202 rfl (lv_at hl 2 rfl) ?_
  refine lv_iload hx hb dL_law_203 (lv_at hl 1 rfl) ?_
  refine lv_iconst (v := (nI 2)) hx hb dL_law_205 (by decide) ?_
  refine nn_iadd hx hb dL_law_206 ?_
  refine lw_sld hx hb hX hsl hbz hh (k := i + 2) (by omega) hL dL_law_207 ?_
  refine lw_V (As := [.int (xs (i + 1)), .int (xs (i + 2))]) (rest := []) hx hb hml hown hE hl.1 hh (kc_L_90 hE.2.1 ⟨by show _ ≤ 12; have := hrm.2.1; omega, by show _ ≤ 430; have := hrm.2.2; omega⟩) hm rfl (by decide) f1 rfl rfl (Nat.le_of_ble_eq_true rfl) dL_law_208 hrm.1 ⟨by show cells + 1 ≤ 601024; exact hcs.1, by show slots + 6 ≤ 7293034; exact hcs.2⟩ (fun H locs mem2 hP2 hh => ?_)
  obtain ⟨hI2, hk2, hres⟩ := hZ mem2 hP2
  obtain ⟨_, _, _, _, _, _, _, _, _, _, _, fM⟩ := hk2
  refine lv_istore (lv' := [(7, .int r), (6, .int (nI k)), (5, .int (nI i)), (0, .ref sa), (1, .ref (b + 0)), (2, .ref (b + 115)), (3, .ref (b + 136)), (4, .ref (b + 137))]) hx hb dL_law_211 hl (by decide) rfl (fun ls hl => ?_)
  refine lv_aload_n hx hb dL_law_213 rfl (lv_at hl 5 rfl) ?_
  refine lw_V (As := []) (rest := []) hx hb hml hown hE hl.1 hh (kc_L_84 hE.2.1 ⟨Nat.le_of_ble_eq_true rfl, Nat.le_of_ble_eq_true rfl⟩) (c_X10_thrown l Γ b 138 mem2 (by decide) fM) rfl (by decide) fM rfl rfl (Nat.le_of_ble_eq_true rfl) dL_law_214 ⟨rfl, rfl⟩ ⟨by show cells + 1 ≤ 601024; exact hcs.1, by show slots + 6 ≤ 7293034; exact hcs.2⟩ (fun H locs mem3 e3 hh => ?_)
  rw [e3] at hh
  refine lv_iload hx hb dL_law_217 (lv_at hl 1 rfl) ?_
  refine nn_icmp_eq (tgt := 224) hx hb dL_law_219 (by decide) (by omega) (by omega) (fun _ => ?_) (fun h => absurd rfl h)
  refine lv_iload hx hb dL_law_224 (lv_at hl 1 rfl) ?_
  refine nn_if_ne (tgt := 241) hx hb dL_law_226 (by decide) (by omega) (fun _ => ?_) (fun hz => ?_)
  · refine lv_goto (tgt := 1468) hx hb dL_law_241 (by decide) ?_
    exact kk _ _ _ _ hI2 hh (lv_sub hl [2, 3, 4, 5, 6, 7] rfl)
  · obtain ⟨f, hf1, hf2⟩ := hres hz
    refine lv_aload_n hx hb dL_law_229 rfl (lv_at hl 6 rfl) ?_
    refine lv_iconst (v := (nI 0)) hx hb dL_law_230 (by decide) ?_
    refine mm_lald hx hb hE hh (k := 0) (by decide) hf1 (by decide) (by decide) dL_law_231 ?_
    rw [hf2]
    refine lv_iload hx hb dL_law_232 (lv_at hl 0 rfl) ?_
    refine lv_i2l hx hb dL_law_234 rfl ?_
    refine W.lcmp hx hb dL_law_235 ?_
    rw [lg_self]
    refine lv_if_eq (tgt := 241) hx hb dL_law_236 (by decide) (fun _ => ?_) (fun h => absurd rfl h)
    refine lv_goto (tgt := 1468) hx hb dL_law_241 (by decide) ?_
    exact kk _ _ _ _ hI2 hh (lv_sub hl [2, 3, 4, 5, 6, 7] rfl)
set_option maxHeartbeats 4000000 in
set_option maxRecDepth 100000 in
/-- the law: weigh -/
theorem sg_2 (C : LwC p l s m meth c sa L xs Γ b) (hi : i + 6 ≤ L) (hcs : cells + 1 ≤ 601024 ∧ slots + 6 ≤ 7293034) (hI : Inv Γ b mem) (hh : GH Γ b 138 mem s H locs) (hl : lv_has ls 10 [(5, .int (nI i)), (0, .ref sa), (1, .ref (b + 0)), (2, .ref (b + 115)), (3, .ref (b + 136)), (4, .ref (b + 137))]) (kk : LK p l e s m below meth c sa Γ b i cells slots) : W p l e room_1 s m #[Value.ref sa] below meth c H locs cells slots (lw_Z below #[Value.ref sa] s) (F0 m 244 ls []) := by
  obtain ⟨hx, hb, hr, hlocks, hml, hown, hE, hX, hsl, hbz, hL, hlst⟩ := C
  obtain ⟨k, P, hk, hw, hQ⟩ := op_weigh l hlst Γ b mem hI (xs (i + 1)) (xs (i + 2)) (FP.fmul (FP.i2f (xs (i + 3))) 1040187392)
  refine lv_aload_n hx hb dL_law_244 rfl (lv_at hl 2 rfl) ?_
  refine lv_aload_n hx hb dL_law_245 rfl (lv_at hl 1 rfl) ?_
  refine lv_iload hx hb dL_law_246 (lv_at hl 0 rfl) ?_
  refine lv_iconst (v := (nI 1)) hx hb dL_law_248 (by decide) ?_
  refine nn_iadd hx hb dL_law_249 ?_
  refine lw_sld hx hb hX hsl hbz hh (k := i + 1) (by omega) hL dL_law_250 ?_
  refine lv_aload_n hx hb dL_law_251 rfl (lv_at hl 1 rfl) ?_
  refine lv_iload hx hb dL_law_252 (lv_at hl 0 rfl) ?_
  refine lv_iconst (v := (nI 2)) hx hb dL_law_254 (by decide) ?_
  refine nn_iadd hx hb dL_law_255 ?_
  refine lw_sld hx hb hX hsl hbz hh (k := i + 2) (by omega) hL dL_law_256 ?_
  refine lv_aload_n hx hb dL_law_257 rfl (lv_at hl 1 rfl) ?_
  refine lv_iload hx hb dL_law_258 (lv_at hl 0 rfl) ?_
  refine lv_iconst (v := (nI 3)) hx hb dL_law_260 (by decide) ?_
  refine nn_iadd hx hb dL_law_261 ?_
  refine lw_sld hx hb hX hsl hbz hh (k := i + 3) (by omega) hL dL_law_262 ?_
  refine lv_i2f hx hb dL_law_263 ?_
  refine lv_ldcf hx hb hown (wk_L_91 hE.2.1 _) dL_law_264 ?_
  refine lv_fmul hx hb dL_law_266 (fm_n _) ?_
  refine mw_S (As := [.ref (b + 0), .int (xs (i + 1)), .int (xs (i + 2)), .float (FP.fmul (FP.i2f (xs (i + 3))) 1040187392)]) (rest := []) hx hb hml hown hE hl.1 hh (kw_weigh hE.2.1 ⟨Nat.le_of_ble_eq_true rfl, Nat.le_of_ble_eq_true rfl⟩) hw rfl rfl (Nat.le_of_ble_eq_true rfl) dL_law_267 ⟨by show cells + 1 ≤ 601024; exact hcs.1, by show slots + 6 ≤ 7293034; exact hcs.2⟩ (fun H locs mem1 hP hh => ?_)
  obtain ⟨rm, P2, hrm, ⟨fs, f1⟩, hm, hZ⟩ := hQ mem1 hP
  refine lv_istore (lv' := [(6, .int (nI k)), (5, .int (nI i)), (0, .ref sa), (1, .ref (b + 0)), (2, .ref (b + 115)), (3, .ref (b + 136)), (4, .ref (b + 137))]) hx hb dL_law_270 hl (by decide) rfl (fun ls hl => ?_)
  refine lv_aload_n hx hb dL_law_272 rfl (lv_at hl 4 rfl) ?_
  refine lv_aload_n hx hb dL_law_273 rfl (lv_at hl 2 rfl) ?_
  refine lv_iload hx hb dL_law_274 (lv_at hl 1 rfl) ?_
  refine lv_iconst (v := (nI 1)) hx hb dL_law_276 (by decide) ?_
  refine nn_iadd hx hb dL_law_277 ?_
  refine lw_sld hx hb hX hsl hbz hh (k := i + 1) (by omega) hL dL_law_278 ?_
  refine lv_aload_n hx hb dL_law_279 rfl (lv_at hl 2 rfl) ?_
  refine lv_iload hx hb dL_law_280 (lv_at hl 1 rfl) ?_
  refine lv_iconst (v := (nI 2)) hx hb dL_law_282 (by decide) ?_
  refine nn_iadd hx hb dL_law_283 ?_
  refine lw_sld hx hb hX hsl hbz hh (k := i + 2) (by omega) hL dL_law_284 ?_
  refine lv_aload_n hx hb dL_law_285 rfl (lv_at hl 2 rfl) ?_
  refine lv_iload hx hb dL_law_286 (lv_at hl 1 rfl) ?_
  refine lv_iconst (v := (nI 3)) hx hb dL_law_288 (by decide) ?_
  refine nn_iadd hx hb dL_law_289 ?_
  refine lw_sld hx hb hX hsl hbz hh (k := i + 3) (by omega) hL dL_law_290 ?_
  refine lv_i2f hx hb dL_law_291 ?_
  refine lv_ldcf hx hb hown (wk_L_91 hE.2.1 _) dL_law_292 ?_
  refine lv_fmul hx hb dL_law_294 (fm_n _) ?_
  refine lw_V (As := [.int (xs (i + 1)), .int (xs (i + 2)), .float (FP.fmul (FP.i2f (xs (i + 3))) 1040187392)]) (rest := []) hx hb hml hown hE hl.1 hh (kc_L_95 hE.2.1 ⟨by show _ ≤ 12; have := hrm.2.1; omega, by show _ ≤ 430; have := hrm.2.2; omega⟩) hm rfl (by decide) f1 rfl rfl (Nat.le_of_ble_eq_true rfl) dL_law_295 hrm.1 ⟨by show cells + 1 ≤ 601024; exact hcs.1, by show slots + 6 ≤ 7293034; exact hcs.2⟩ (fun H locs mem2 hP2 hh => ?_)
  obtain ⟨hI2, hk2⟩ := hZ mem2 hP2
  obtain ⟨_, _, _, _, _, _, _, _, _, _, _, fM⟩ := hk2
  refine lv_aload_n hx hb dL_law_298 rfl (lv_at hl 4 rfl) ?_
  refine lw_V (As := []) (rest := []) hx hb hml hown hE hl.1 hh (kc_L_84 hE.2.1 ⟨Nat.le_of_ble_eq_true rfl, Nat.le_of_ble_eq_true rfl⟩) (c_X10_thrown l Γ b 138 mem2 (by decide) fM) rfl (by decide) fM rfl rfl (Nat.le_of_ble_eq_true rfl) dL_law_299 ⟨rfl, rfl⟩ ⟨by show cells + 1 ≤ 601024; exact hcs.1, by show slots + 6 ≤ 7293034; exact hcs.2⟩ (fun H locs mem3 e3 hh => ?_)
  rw [e3] at hh
  refine lv_iload hx hb dL_law_302 (lv_at hl 0 rfl) ?_
  refine nn_icmp_eq (tgt := 309) hx hb dL_law_304 (by decide) (by omega) (by omega) (fun _ => ?_) (fun h => absurd rfl h)
  refine lv_goto (tgt := 1468) hx hb dL_law_309 (by decide) ?_
  exact kk _ _ _ _ hI2 hh (lv_sub hl [1, 2, 3, 4, 5, 6] rfl)
set_option maxHeartbeats 4000000 in
set_option maxRecDepth 100000 in
/-- the law: token -/
theorem sg_3 (C : LwC p l s m meth c sa L xs Γ b) (hi : i + 6 ≤ L) (hcs : cells + 1 ≤ 601024 ∧ slots + 6 ≤ 7293034) (hI : Inv Γ b mem) (hh : GH Γ b 138 mem s H locs) (hl : lv_has ls 10 [(5, .int (nI i)), (0, .ref sa), (1, .ref (b + 0)), (2, .ref (b + 115)), (3, .ref (b + 136)), (4, .ref (b + 137))]) (kk : LK p l e s m below meth c sa Γ b i cells slots) : W p l e room_1 s m #[Value.ref sa] below meth c H locs cells slots (lw_Z below #[Value.ref sa] s) (F0 m 312 ls []) := by
  obtain ⟨hx, hb, hr, hlocks, hml, hown, hE, hX, hsl, hbz, hL, hlst⟩ := C
  obtain ⟨k, r, P, hk, hw, hQ⟩ := op_token l hlst Γ b mem hI (xs (i + 1)) (FP.fmul (FP.i2f (xs (i + 2))) 1040187392) (FP.fmul (FP.i2f (xs (i + 3))) 1040187392) (FP.fmul (FP.i2f (xs (i + 4))) 1040187392) (FP.fmul (FP.i2f (xs (i + 5))) 1040187392)
  refine lv_aload_n hx hb dL_law_312 rfl (lv_at hl 2 rfl) ?_
  refine lv_aload_n hx hb dL_law_313 rfl (lv_at hl 1 rfl) ?_
  refine lv_iload hx hb dL_law_314 (lv_at hl 0 rfl) ?_
  refine lv_iconst (v := (nI 1)) hx hb dL_law_316 (by decide) ?_
  refine nn_iadd hx hb dL_law_317 ?_
  refine lw_sld hx hb hX hsl hbz hh (k := i + 1) (by omega) hL dL_law_318 ?_
  refine lv_aload_n hx hb dL_law_319 rfl (lv_at hl 1 rfl) ?_
  refine lv_iload hx hb dL_law_320 (lv_at hl 0 rfl) ?_
  refine lv_iconst (v := (nI 2)) hx hb dL_law_322 (by decide) ?_
  refine nn_iadd hx hb dL_law_323 ?_
  refine lw_sld hx hb hX hsl hbz hh (k := i + 2) (by omega) hL dL_law_324 ?_
  refine lv_i2f hx hb dL_law_325 ?_
  refine lv_ldcf hx hb hown (wk_L_91 hE.2.1 _) dL_law_326 ?_
  refine lv_fmul hx hb dL_law_328 (fm_n _) ?_
  refine lv_aload_n hx hb dL_law_329 rfl (lv_at hl 1 rfl) ?_
  refine lv_iload hx hb dL_law_330 (lv_at hl 0 rfl) ?_
  refine lv_iconst (v := (nI 3)) hx hb dL_law_332 (by decide) ?_
  refine nn_iadd hx hb dL_law_333 ?_
  refine lw_sld hx hb hX hsl hbz hh (k := i + 3) (by omega) hL dL_law_334 ?_
  refine lv_i2f hx hb dL_law_335 ?_
  refine lv_ldcf hx hb hown (wk_L_91 hE.2.1 _) dL_law_336 ?_
  refine lv_fmul hx hb dL_law_338 (fm_n _) ?_
  refine lv_aload_n hx hb dL_law_339 rfl (lv_at hl 1 rfl) ?_
  refine lv_iload hx hb dL_law_340 (lv_at hl 0 rfl) ?_
  refine lv_iconst (v := (nI 4)) hx hb dL_law_342 (by decide) ?_
  refine nn_iadd hx hb dL_law_343 ?_
  refine lw_sld hx hb hX hsl hbz hh (k := i + 4) (by omega) hL dL_law_344 ?_
  refine lv_i2f hx hb dL_law_345 ?_
  refine lv_ldcf hx hb hown (wk_L_91 hE.2.1 _) dL_law_346 ?_
  refine lv_fmul hx hb dL_law_348 (fm_n _) ?_
  refine lv_aload_n hx hb dL_law_349 rfl (lv_at hl 1 rfl) ?_
  refine lv_iload hx hb dL_law_350 (lv_at hl 0 rfl) ?_
  refine lv_iconst (v := (nI 5)) hx hb dL_law_352 (by decide) ?_
  refine nn_iadd hx hb dL_law_353 ?_
  refine lw_sld hx hb hX hsl hbz hh (k := i + 5) (by omega) hL dL_law_354 ?_
  refine lv_i2f hx hb dL_law_355 ?_
  refine lv_ldcf hx hb hown (wk_L_91 hE.2.1 _) dL_law_356 ?_
  refine lv_fmul hx hb dL_law_358 (fm_n _) ?_
  refine lv_aload_n hx hb dL_law_359 rfl (lv_at hl 4 rfl) ?_
  refine mw_S (As := [.ref (b + 0), .int (xs (i + 1)), .float (FP.fmul (FP.i2f (xs (i + 2))) 1040187392), .float (FP.fmul (FP.i2f (xs (i + 3))) 1040187392), .float (FP.fmul (FP.i2f (xs (i + 4))) 1040187392), .float (FP.fmul (FP.i2f (xs (i + 5))) 1040187392), .ref (b + 136)]) (rest := []) hx hb hml hown hE hl.1 hh (kw_token hE.2.1 ⟨Nat.le_of_ble_eq_true rfl, Nat.le_of_ble_eq_true rfl⟩) hw rfl rfl (Nat.le_of_ble_eq_true rfl) dL_law_360 ⟨by show cells + 1 ≤ 601024; exact hcs.1, by show slots + 6 ≤ 7293034; exact hcs.2⟩ (fun H locs mem1 hP hh => ?_)
  obtain ⟨rm, P2, hrm, ⟨fs, f1⟩, hm, hZ⟩ := hQ mem1 hP
  refine lv_istore (lv' := [(6, .int (nI k)), (5, .int (nI i)), (0, .ref sa), (1, .ref (b + 0)), (2, .ref (b + 115)), (3, .ref (b + 136)), (4, .ref (b + 137))]) hx hb dL_law_363 hl (by decide) rfl (fun ls hl => ?_)
  refine lv_aload_n hx hb dL_law_365 rfl (lv_at hl 4 rfl) ?_
  refine lv_aload_n hx hb dL_law_366 rfl (lv_at hl 2 rfl) ?_
  refine lv_iload hx hb dL_law_367 (lv_at hl 1 rfl) ?_
  refine lv_iconst (v := (nI 1)) hx hb dL_law_369 (by decide) ?_
  refine nn_iadd hx hb dL_law_370 ?_
  refine lw_sld hx hb hX hsl hbz hh (k := i + 1) (by omega) hL dL_law_371 ?_
  refine lv_aload_n hx hb dL_law_372 rfl (lv_at hl 2 rfl) ?_
  refine lv_iload hx hb dL_law_373 (lv_at hl 1 rfl) ?_
  refine lv_iconst (v := (nI 2)) hx hb dL_law_375 (by decide) ?_
  refine nn_iadd hx hb dL_law_376 ?_
  refine lw_sld hx hb hX hsl hbz hh (k := i + 2) (by omega) hL dL_law_377 ?_
  refine lv_i2f hx hb dL_law_378 ?_
  refine lv_ldcf hx hb hown (wk_L_91 hE.2.1 _) dL_law_379 ?_
  refine lv_fmul hx hb dL_law_381 (fm_n _) ?_
  refine lv_aload_n hx hb dL_law_382 rfl (lv_at hl 2 rfl) ?_
  refine lv_iload hx hb dL_law_383 (lv_at hl 1 rfl) ?_
  refine lv_iconst (v := (nI 3)) hx hb dL_law_385 (by decide) ?_
  refine nn_iadd hx hb dL_law_386 ?_
  refine lw_sld hx hb hX hsl hbz hh (k := i + 3) (by omega) hL dL_law_387 ?_
  refine lv_i2f hx hb dL_law_388 ?_
  refine lv_ldcf hx hb hown (wk_L_91 hE.2.1 _) dL_law_389 ?_
  refine lv_fmul hx hb dL_law_391 (fm_n _) ?_
  refine lv_aload_n hx hb dL_law_392 rfl (lv_at hl 2 rfl) ?_
  refine lv_iload hx hb dL_law_393 (lv_at hl 1 rfl) ?_
  refine lv_iconst (v := (nI 4)) hx hb dL_law_395 (by decide) ?_
  refine nn_iadd hx hb dL_law_396 ?_
  refine lw_sld hx hb hX hsl hbz hh (k := i + 4) (by omega) hL dL_law_397 ?_
  refine lv_i2f hx hb dL_law_398 ?_
  refine lv_ldcf hx hb hown (wk_L_91 hE.2.1 _) dL_law_399 ?_
  refine lv_fmul hx hb dL_law_401 (fm_n _) ?_
  refine lv_aload_n hx hb dL_law_402 rfl (lv_at hl 2 rfl) ?_
  refine lv_iload hx hb dL_law_403 (lv_at hl 1 rfl) ?_
  refine lv_iconst (v := (nI 5)) hx hb dL_law_405 (by decide) ?_
  refine nn_iadd hx hb dL_law_406 ?_
  refine lw_sld hx hb hX hsl hbz hh (k := i + 5) (by omega) hL dL_law_407 ?_
  refine lv_i2f hx hb dL_law_408 ?_
  refine lv_ldcf hx hb hown (wk_L_91 hE.2.1 _) dL_law_409 ?_
  refine lv_fmul hx hb dL_law_411 (fm_n _) ?_
  refine lw_V (As := [.int (xs (i + 1)), .float (FP.fmul (FP.i2f (xs (i + 2))) 1040187392), .float (FP.fmul (FP.i2f (xs (i + 3))) 1040187392), .float (FP.fmul (FP.i2f (xs (i + 4))) 1040187392), .float (FP.fmul (FP.i2f (xs (i + 5))) 1040187392)]) (rest := []) hx hb hml hown hE hl.1 hh (kc_L_99 hE.2.1 ⟨by show _ ≤ 12; have := hrm.2.1; omega, by show _ ≤ 430; have := hrm.2.2; omega⟩) hm rfl (by decide) f1 rfl rfl (Nat.le_of_ble_eq_true rfl) dL_law_412 hrm.1 ⟨by show cells + 1 ≤ 601024; exact hcs.1, by show slots + 6 ≤ 7293034; exact hcs.2⟩ (fun H locs mem2 hP2 hh => ?_)
  obtain ⟨hI2, hk2, hres⟩ := hZ mem2 hP2
  obtain ⟨_, _, _, _, _, _, _, _, _, _, _, fM⟩ := hk2
  refine lv_istore (lv' := [(7, .int r), (6, .int (nI k)), (5, .int (nI i)), (0, .ref sa), (1, .ref (b + 0)), (2, .ref (b + 115)), (3, .ref (b + 136)), (4, .ref (b + 137))]) hx hb dL_law_415 hl (by decide) rfl (fun ls hl => ?_)
  refine lv_aload_n hx hb dL_law_417 rfl (lv_at hl 5 rfl) ?_
  refine lw_V (As := []) (rest := []) hx hb hml hown hE hl.1 hh (kc_L_84 hE.2.1 ⟨Nat.le_of_ble_eq_true rfl, Nat.le_of_ble_eq_true rfl⟩) (c_X10_thrown l Γ b 138 mem2 (by decide) fM) rfl (by decide) fM rfl rfl (Nat.le_of_ble_eq_true rfl) dL_law_418 ⟨rfl, rfl⟩ ⟨by show cells + 1 ≤ 601024; exact hcs.1, by show slots + 6 ≤ 7293034; exact hcs.2⟩ (fun H locs mem3 e3 hh => ?_)
  rw [e3] at hh
  refine lv_iload hx hb dL_law_421 (lv_at hl 1 rfl) ?_
  refine nn_icmp_eq (tgt := 428) hx hb dL_law_423 (by decide) (by omega) (by omega) (fun _ => ?_) (fun h => absurd rfl h)
  refine lv_iload hx hb dL_law_428 (lv_at hl 1 rfl) ?_
  refine nn_if_ne (tgt := 445) hx hb dL_law_430 (by decide) (by omega) (fun _ => ?_) (fun hz => ?_)
  · refine lv_goto (tgt := 1468) hx hb dL_law_445 (by decide) ?_
    exact kk _ _ _ _ hI2 hh (lv_sub hl [2, 3, 4, 5, 6, 7] rfl)
  · obtain ⟨f, hf1, hf2⟩ := hres hz
    refine lv_aload_n hx hb dL_law_433 rfl (lv_at hl 6 rfl) ?_
    refine lv_iconst (v := (nI 0)) hx hb dL_law_434 (by decide) ?_
    refine mm_lald hx hb hE hh (k := 0) (by decide) hf1 (by decide) (by decide) dL_law_435 ?_
    rw [hf2]
    refine lv_iload hx hb dL_law_436 (lv_at hl 0 rfl) ?_
    refine lv_i2l hx hb dL_law_438 rfl ?_
    refine W.lcmp hx hb dL_law_439 ?_
    rw [lg_self]
    refine lv_if_eq (tgt := 445) hx hb dL_law_440 (by decide) (fun _ => ?_) (fun h => absurd rfl h)
    refine lv_goto (tgt := 1468) hx hb dL_law_445 (by decide) ?_
    exact kk _ _ _ _ hI2 hh (lv_sub hl [2, 3, 4, 5, 6, 7] rfl)
set_option maxHeartbeats 4000000 in
set_option maxRecDepth 100000 in
/-- the law: centroid -/
theorem sg_4 (C : LwC p l s m meth c sa L xs Γ b) (hi : i + 6 ≤ L) (hcs : cells + 1 ≤ 601024 ∧ slots + 6 ≤ 7293034) (hI : Inv Γ b mem) (hh : GH Γ b 138 mem s H locs) (hl : lv_has ls 10 [(5, .int (nI i)), (0, .ref sa), (1, .ref (b + 0)), (2, .ref (b + 115)), (3, .ref (b + 136)), (4, .ref (b + 137))]) (kk : LK p l e s m below meth c sa Γ b i cells slots) : W p l e room_1 s m #[Value.ref sa] below meth c H locs cells slots (lw_Z below #[Value.ref sa] s) (F0 m 448 ls []) := by
  obtain ⟨hx, hb, hr, hlocks, hml, hown, hE, hX, hsl, hbz, hL, hlst⟩ := C
  obtain ⟨k, r, P, hk, hw, hQ⟩ := op_centroid l hlst Γ b mem hI (FP.fmul (FP.i2f (xs (i + 1))) 1040187392) (FP.fmul (FP.i2f (xs (i + 2))) 1040187392) (FP.fmul (FP.i2f (xs (i + 3))) 1040187392) (FP.fmul (FP.i2f (xs (i + 4))) 1040187392)
  refine lv_aload_n hx hb dL_law_448 rfl (lv_at hl 2 rfl) ?_
  refine lv_aload_n hx hb dL_law_449 rfl (lv_at hl 1 rfl) ?_
  refine lv_iload hx hb dL_law_450 (lv_at hl 0 rfl) ?_
  refine lv_iconst (v := (nI 1)) hx hb dL_law_452 (by decide) ?_
  refine nn_iadd hx hb dL_law_453 ?_
  refine lw_sld hx hb hX hsl hbz hh (k := i + 1) (by omega) hL dL_law_454 ?_
  refine lv_i2f hx hb dL_law_455 ?_
  refine lv_ldcf hx hb hown (wk_L_91 hE.2.1 _) dL_law_456 ?_
  refine lv_fmul hx hb dL_law_458 (fm_n _) ?_
  refine lv_aload_n hx hb dL_law_459 rfl (lv_at hl 1 rfl) ?_
  refine lv_iload hx hb dL_law_460 (lv_at hl 0 rfl) ?_
  refine lv_iconst (v := (nI 2)) hx hb dL_law_462 (by decide) ?_
  refine nn_iadd hx hb dL_law_463 ?_
  refine lw_sld hx hb hX hsl hbz hh (k := i + 2) (by omega) hL dL_law_464 ?_
  refine lv_i2f hx hb dL_law_465 ?_
  refine lv_ldcf hx hb hown (wk_L_91 hE.2.1 _) dL_law_466 ?_
  refine lv_fmul hx hb dL_law_468 (fm_n _) ?_
  refine lv_aload_n hx hb dL_law_469 rfl (lv_at hl 1 rfl) ?_
  refine lv_iload hx hb dL_law_470 (lv_at hl 0 rfl) ?_
  refine lv_iconst (v := (nI 3)) hx hb dL_law_472 (by decide) ?_
  refine nn_iadd hx hb dL_law_473 ?_
  refine lw_sld hx hb hX hsl hbz hh (k := i + 3) (by omega) hL dL_law_474 ?_
  refine lv_i2f hx hb dL_law_475 ?_
  refine lv_ldcf hx hb hown (wk_L_91 hE.2.1 _) dL_law_476 ?_
  refine lv_fmul hx hb dL_law_478 (fm_n _) ?_
  refine lv_aload_n hx hb dL_law_479 rfl (lv_at hl 1 rfl) ?_
  refine lv_iload hx hb dL_law_480 (lv_at hl 0 rfl) ?_
  refine lv_iconst (v := (nI 4)) hx hb dL_law_482 (by decide) ?_
  refine nn_iadd hx hb dL_law_483 ?_
  refine lw_sld hx hb hX hsl hbz hh (k := i + 4) (by omega) hL dL_law_484 ?_
  refine lv_i2f hx hb dL_law_485 ?_
  refine lv_ldcf hx hb hown (wk_L_91 hE.2.1 _) dL_law_486 ?_
  refine lv_fmul hx hb dL_law_488 (fm_n _) ?_
  refine lv_aload_n hx hb dL_law_489 rfl (lv_at hl 4 rfl) ?_
  refine mw_S (As := [.ref (b + 0), .float (FP.fmul (FP.i2f (xs (i + 1))) 1040187392), .float (FP.fmul (FP.i2f (xs (i + 2))) 1040187392), .float (FP.fmul (FP.i2f (xs (i + 3))) 1040187392), .float (FP.fmul (FP.i2f (xs (i + 4))) 1040187392), .ref (b + 136)]) (rest := []) hx hb hml hown hE hl.1 hh (kw_centroid hE.2.1 ⟨Nat.le_of_ble_eq_true rfl, Nat.le_of_ble_eq_true rfl⟩) hw rfl rfl (Nat.le_of_ble_eq_true rfl) dL_law_490 ⟨by show cells + 1 ≤ 601024; exact hcs.1, by show slots + 6 ≤ 7293034; exact hcs.2⟩ (fun H locs mem1 hP hh => ?_)
  obtain ⟨rm, P2, hrm, ⟨fs, f1⟩, hm, hZ⟩ := hQ mem1 hP
  refine lv_istore (lv' := [(6, .int (nI k)), (5, .int (nI i)), (0, .ref sa), (1, .ref (b + 0)), (2, .ref (b + 115)), (3, .ref (b + 136)), (4, .ref (b + 137))]) hx hb dL_law_493 hl (by decide) rfl (fun ls hl => ?_)
  refine lv_aload_n hx hb dL_law_495 rfl (lv_at hl 4 rfl) ?_
  refine lv_aload_n hx hb dL_law_496 rfl (lv_at hl 2 rfl) ?_
  refine lv_iload hx hb dL_law_497 (lv_at hl 1 rfl) ?_
  refine lv_iconst (v := (nI 1)) hx hb dL_law_499 (by decide) ?_
  refine nn_iadd hx hb dL_law_500 ?_
  refine lw_sld hx hb hX hsl hbz hh (k := i + 1) (by omega) hL dL_law_501 ?_
  refine lv_i2f hx hb dL_law_502 ?_
  refine lv_ldcf hx hb hown (wk_L_91 hE.2.1 _) dL_law_503 ?_
  refine lv_fmul hx hb dL_law_505 (fm_n _) ?_
  refine lv_aload_n hx hb dL_law_506 rfl (lv_at hl 2 rfl) ?_
  refine lv_iload hx hb dL_law_507 (lv_at hl 1 rfl) ?_
  refine lv_iconst (v := (nI 2)) hx hb dL_law_509 (by decide) ?_
  refine nn_iadd hx hb dL_law_510 ?_
  refine lw_sld hx hb hX hsl hbz hh (k := i + 2) (by omega) hL dL_law_511 ?_
  refine lv_i2f hx hb dL_law_512 ?_
  refine lv_ldcf hx hb hown (wk_L_91 hE.2.1 _) dL_law_513 ?_
  refine lv_fmul hx hb dL_law_515 (fm_n _) ?_
  refine lv_aload_n hx hb dL_law_516 rfl (lv_at hl 2 rfl) ?_
  refine lv_iload hx hb dL_law_517 (lv_at hl 1 rfl) ?_
  refine lv_iconst (v := (nI 3)) hx hb dL_law_519 (by decide) ?_
  refine nn_iadd hx hb dL_law_520 ?_
  refine lw_sld hx hb hX hsl hbz hh (k := i + 3) (by omega) hL dL_law_521 ?_
  refine lv_i2f hx hb dL_law_522 ?_
  refine lv_ldcf hx hb hown (wk_L_91 hE.2.1 _) dL_law_523 ?_
  refine lv_fmul hx hb dL_law_525 (fm_n _) ?_
  refine lv_aload_n hx hb dL_law_526 rfl (lv_at hl 2 rfl) ?_
  refine lv_iload hx hb dL_law_527 (lv_at hl 1 rfl) ?_
  refine lv_iconst (v := (nI 4)) hx hb dL_law_529 (by decide) ?_
  refine nn_iadd hx hb dL_law_530 ?_
  refine lw_sld hx hb hX hsl hbz hh (k := i + 4) (by omega) hL dL_law_531 ?_
  refine lv_i2f hx hb dL_law_532 ?_
  refine lv_ldcf hx hb hown (wk_L_91 hE.2.1 _) dL_law_533 ?_
  refine lv_fmul hx hb dL_law_535 (fm_n _) ?_
  refine lw_V (As := [.float (FP.fmul (FP.i2f (xs (i + 1))) 1040187392), .float (FP.fmul (FP.i2f (xs (i + 2))) 1040187392), .float (FP.fmul (FP.i2f (xs (i + 3))) 1040187392), .float (FP.fmul (FP.i2f (xs (i + 4))) 1040187392)]) (rest := []) hx hb hml hown hE hl.1 hh (kc_L_103 hE.2.1 ⟨by show _ ≤ 12; have := hrm.2.1; omega, by show _ ≤ 430; have := hrm.2.2; omega⟩) hm rfl (by decide) f1 rfl rfl (Nat.le_of_ble_eq_true rfl) dL_law_536 hrm.1 ⟨by show cells + 1 ≤ 601024; exact hcs.1, by show slots + 6 ≤ 7293034; exact hcs.2⟩ (fun H locs mem2 hP2 hh => ?_)
  obtain ⟨hI2, hk2, hres⟩ := hZ mem2 hP2
  obtain ⟨_, _, _, _, _, _, _, _, _, _, _, fM⟩ := hk2
  refine lv_istore (lv' := [(7, .int r), (6, .int (nI k)), (5, .int (nI i)), (0, .ref sa), (1, .ref (b + 0)), (2, .ref (b + 115)), (3, .ref (b + 136)), (4, .ref (b + 137))]) hx hb dL_law_539 hl (by decide) rfl (fun ls hl => ?_)
  refine lv_aload_n hx hb dL_law_541 rfl (lv_at hl 5 rfl) ?_
  refine lw_V (As := []) (rest := []) hx hb hml hown hE hl.1 hh (kc_L_84 hE.2.1 ⟨Nat.le_of_ble_eq_true rfl, Nat.le_of_ble_eq_true rfl⟩) (c_X10_thrown l Γ b 138 mem2 (by decide) fM) rfl (by decide) fM rfl rfl (Nat.le_of_ble_eq_true rfl) dL_law_542 ⟨rfl, rfl⟩ ⟨by show cells + 1 ≤ 601024; exact hcs.1, by show slots + 6 ≤ 7293034; exact hcs.2⟩ (fun H locs mem3 e3 hh => ?_)
  rw [e3] at hh
  refine lv_iload hx hb dL_law_545 (lv_at hl 1 rfl) ?_
  refine nn_icmp_eq (tgt := 552) hx hb dL_law_547 (by decide) (by omega) (by omega) (fun _ => ?_) (fun h => absurd rfl h)
  refine lv_iload hx hb dL_law_552 (lv_at hl 1 rfl) ?_
  refine nn_if_ne (tgt := 569) hx hb dL_law_554 (by decide) (by omega) (fun _ => ?_) (fun hz => ?_)
  · refine lv_goto (tgt := 1468) hx hb dL_law_569 (by decide) ?_
    exact kk _ _ _ _ hI2 hh (lv_sub hl [2, 3, 4, 5, 6, 7] rfl)
  · obtain ⟨f, hf1, hf2⟩ := hres hz
    refine lv_aload_n hx hb dL_law_557 rfl (lv_at hl 6 rfl) ?_
    refine lv_iconst (v := (nI 0)) hx hb dL_law_558 (by decide) ?_
    refine mm_lald hx hb hE hh (k := 0) (by decide) hf1 (by decide) (by decide) dL_law_559 ?_
    rw [hf2]
    refine lv_iload hx hb dL_law_560 (lv_at hl 0 rfl) ?_
    refine lv_i2l hx hb dL_law_562 rfl ?_
    refine W.lcmp hx hb dL_law_563 ?_
    rw [lg_self]
    refine lv_if_eq (tgt := 569) hx hb dL_law_564 (by decide) (fun _ => ?_) (fun h => absurd rfl h)
    refine lv_goto (tgt := 1468) hx hb dL_law_569 (by decide) ?_
    exact kk _ _ _ _ hI2 hh (lv_sub hl [2, 3, 4, 5, 6, 7] rfl)
set_option maxHeartbeats 4000000 in
set_option maxRecDepth 100000 in
/-- the law: clear -/
theorem sg_5 (C : LwC p l s m meth c sa L xs Γ b) (hi : i + 6 ≤ L) (hcs : cells + 1 ≤ 601024 ∧ slots + 6 ≤ 7293034) (hI : Inv Γ b mem) (hh : GH Γ b 138 mem s H locs) (hl : lv_has ls 10 [(5, .int (nI i)), (0, .ref sa), (1, .ref (b + 0)), (2, .ref (b + 115)), (3, .ref (b + 136)), (4, .ref (b + 137))]) (kk : LK p l e s m below meth c sa Γ b i cells slots) : W p l e room_1 s m #[Value.ref sa] below meth c H locs cells slots (lw_Z below #[Value.ref sa] s) (F0 m 572 ls []) := by
  obtain ⟨hx, hb, hr, hlocks, hml, hown, hE, hX, hsl, hbz, hL, hlst⟩ := C
  obtain ⟨rm, P, hrm, ⟨fs, f0⟩, hc, hQ⟩ := op_clear l Γ b mem hI
  refine W.widen (k := cells + 1) (n := slots + 6) (by omega) (by omega) ?_
  refine lv_aload_n hx hb dL_law_572 rfl (lv_at hl 2 rfl) ?_
  refine lw_V (As := []) (rest := []) hx hb hml hown hE hl.1 hh (kc_L_104 hE.2.1 ⟨by show _ ≤ 12; have := hrm.2.1; omega, by show _ ≤ 430; have := hrm.2.2; omega⟩) hc rfl (by decide) f0 rfl rfl (Nat.le_of_ble_eq_true rfl) dL_law_573 hrm.1 ⟨by show cells + 1 ≤ 601024; exact hcs.1, by show slots + 6 ≤ 7293034; exact hcs.2⟩ (fun H locs mem1 hP hh => ?_)
  obtain ⟨rm, P2, hrm, ⟨fs, f1⟩, hm, hZ⟩ := hQ mem1 hP
  refine lv_aload_n hx hb dL_law_576 rfl (lv_at hl 3 rfl) ?_
  refine lw_V (As := []) (rest := []) hx hb hml hown hE hl.1 hh (kc_L_107 hE.2.1 ⟨by show _ ≤ 12; have := hrm.2.1; omega, by show _ ≤ 430; have := hrm.2.2; omega⟩) hm rfl (by decide) f1 rfl rfl (Nat.le_of_ble_eq_true rfl) dL_law_577 hrm.1 ⟨by show cells + 1 ≤ 601024; exact hcs.1, by show slots + 6 ≤ 7293034; exact hcs.2⟩ (fun H locs mem2 hP2 hh => ?_)
  have hI2 := hZ mem2 hP2
  refine lv_goto (tgt := 1468) hx hb dL_law_580 (by decide) ?_
  exact kk _ _ _ _ hI2 hh (lv_sub hl [0, 1, 2, 3, 4, 5] rfl)
set_option maxHeartbeats 4000000 in
set_option maxRecDepth 100000 in
/-- the law: word -/
theorem sg_6 (C : LwC p l s m meth c sa L xs Γ b) (hi : i + 6 ≤ L) (hcs : cells + 1 ≤ 601024 ∧ slots + 6 ≤ 7293034) (hI : Inv Γ b mem) (hh : GH Γ b 138 mem s H locs) (hl : lv_has ls 10 [(5, .int (nI i)), (0, .ref sa), (1, .ref (b + 0)), (2, .ref (b + 115)), (3, .ref (b + 136)), (4, .ref (b + 137))]) (kk : LK p l e s m below meth c sa Γ b i cells slots) : W p l e room_1 s m #[Value.ref sa] below meth c H locs cells slots (lw_Z below #[Value.ref sa] s) (F0 m 583 ls []) := by
  obtain ⟨hx, hb, hr, hlocks, hml, hown, hE, hX, hsl, hbz, hL, hlst⟩ := C
  obtain ⟨k, r, P, hk, hw, hQ⟩ := op_word l hlst Γ b mem hI (xs (i + 1))
  refine lv_aload_n hx hb dL_law_583 rfl (lv_at hl 2 rfl) ?_
  refine lv_aload_n hx hb dL_law_584 rfl (lv_at hl 1 rfl) ?_
  refine lv_iload hx hb dL_law_585 (lv_at hl 0 rfl) ?_
  refine lv_iconst (v := (nI 1)) hx hb dL_law_587 (by decide) ?_
  refine nn_iadd hx hb dL_law_588 ?_
  refine lw_sld hx hb hX hsl hbz hh (k := i + 1) (by omega) hL dL_law_589 ?_
  refine lv_aload_n hx hb dL_law_590 rfl (lv_at hl 4 rfl) ?_
  refine mw_S (As := [.ref (b + 0), .int (xs (i + 1)), .ref (b + 136)]) (rest := []) hx hb hml hown hE hl.1 hh (kw_word hE.2.1 ⟨Nat.le_of_ble_eq_true rfl, Nat.le_of_ble_eq_true rfl⟩) hw rfl rfl (Nat.le_of_ble_eq_true rfl) dL_law_591 ⟨by show cells + 1 ≤ 601024; exact hcs.1, by show slots + 6 ≤ 7293034; exact hcs.2⟩ (fun H locs mem1 hP hh => ?_)
  obtain ⟨rm, P2, hrm, ⟨fs, f1⟩, hm, hZ⟩ := hQ mem1 hP
  refine lv_istore (lv' := [(6, .int (nI k)), (5, .int (nI i)), (0, .ref sa), (1, .ref (b + 0)), (2, .ref (b + 115)), (3, .ref (b + 136)), (4, .ref (b + 137))]) hx hb dL_law_594 hl (by decide) rfl (fun ls hl => ?_)
  refine lv_aload_n hx hb dL_law_596 rfl (lv_at hl 4 rfl) ?_
  refine lv_aload_n hx hb dL_law_597 rfl (lv_at hl 2 rfl) ?_
  refine lv_iload hx hb dL_law_598 (lv_at hl 1 rfl) ?_
  refine lv_iconst (v := (nI 1)) hx hb dL_law_600 (by decide) ?_
  refine nn_iadd hx hb dL_law_601 ?_
  refine lw_sld hx hb hX hsl hbz hh (k := i + 1) (by omega) hL dL_law_602 ?_
  refine lw_V (As := [.int (xs (i + 1))]) (rest := []) hx hb hml hown hE hl.1 hh (kc_L_111 hE.2.1 ⟨by show _ ≤ 12; have := hrm.2.1; omega, by show _ ≤ 430; have := hrm.2.2; omega⟩) hm rfl (by decide) f1 rfl rfl (Nat.le_of_ble_eq_true rfl) dL_law_603 hrm.1 ⟨by show cells + 1 ≤ 601024; exact hcs.1, by show slots + 6 ≤ 7293034; exact hcs.2⟩ (fun H locs mem2 hP2 hh => ?_)
  obtain ⟨hI2, hk2, hres⟩ := hZ mem2 hP2
  obtain ⟨_, _, _, _, _, _, _, _, _, _, _, fM⟩ := hk2
  refine lv_istore (lv' := [(7, .int r), (6, .int (nI k)), (5, .int (nI i)), (0, .ref sa), (1, .ref (b + 0)), (2, .ref (b + 115)), (3, .ref (b + 136)), (4, .ref (b + 137))]) hx hb dL_law_606 hl (by decide) rfl (fun ls hl => ?_)
  refine lv_aload_n hx hb dL_law_608 rfl (lv_at hl 5 rfl) ?_
  refine lw_V (As := []) (rest := []) hx hb hml hown hE hl.1 hh (kc_L_84 hE.2.1 ⟨Nat.le_of_ble_eq_true rfl, Nat.le_of_ble_eq_true rfl⟩) (c_X10_thrown l Γ b 138 mem2 (by decide) fM) rfl (by decide) fM rfl rfl (Nat.le_of_ble_eq_true rfl) dL_law_609 ⟨rfl, rfl⟩ ⟨by show cells + 1 ≤ 601024; exact hcs.1, by show slots + 6 ≤ 7293034; exact hcs.2⟩ (fun H locs mem3 e3 hh => ?_)
  rw [e3] at hh
  refine lv_iload hx hb dL_law_612 (lv_at hl 1 rfl) ?_
  refine nn_icmp_eq (tgt := 619) hx hb dL_law_614 (by decide) (by omega) (by omega) (fun _ => ?_) (fun h => absurd rfl h)
  refine lv_iload hx hb dL_law_619 (lv_at hl 1 rfl) ?_
  refine nn_if_ne (tgt := 636) hx hb dL_law_621 (by decide) (by omega) (fun _ => ?_) (fun hz => ?_)
  · refine lv_goto (tgt := 1468) hx hb dL_law_636 (by decide) ?_
    exact kk _ _ _ _ hI2 hh (lv_sub hl [2, 3, 4, 5, 6, 7] rfl)
  · obtain ⟨f, hf1, hf2⟩ := hres hz
    refine lv_aload_n hx hb dL_law_624 rfl (lv_at hl 6 rfl) ?_
    refine lv_iconst (v := (nI 0)) hx hb dL_law_625 (by decide) ?_
    refine mm_lald hx hb hE hh (k := 0) (by decide) hf1 (by decide) (by decide) dL_law_626 ?_
    rw [hf2]
    refine lv_iload hx hb dL_law_627 (lv_at hl 0 rfl) ?_
    refine lv_i2l hx hb dL_law_629 rfl ?_
    refine W.lcmp hx hb dL_law_630 ?_
    rw [lg_self]
    refine lv_if_eq (tgt := 636) hx hb dL_law_631 (by decide) (fun _ => ?_) (fun h => absurd rfl h)
    refine lv_goto (tgt := 1468) hx hb dL_law_636 (by decide) ?_
    exact kk _ _ _ _ hI2 hh (lv_sub hl [2, 3, 4, 5, 6, 7] rfl)
set_option maxHeartbeats 4000000 in
set_option maxRecDepth 100000 in
/-- the law: impact -/
theorem sg_7 (C : LwC p l s m meth c sa L xs Γ b) (hi : i + 6 ≤ L) (hcs : cells + 1 ≤ 601024 ∧ slots + 6 ≤ 7293034) (hI : Inv Γ b mem) (hh : GH Γ b 138 mem s H locs) (hl : lv_has ls 10 [(5, .int (nI i)), (0, .ref sa), (1, .ref (b + 0)), (2, .ref (b + 115)), (3, .ref (b + 136)), (4, .ref (b + 137))]) (kk : LK p l e s m below meth c sa Γ b i cells slots) : W p l e room_1 s m #[Value.ref sa] below meth c H locs cells slots (lw_Z below #[Value.ref sa] s) (F0 m 639 ls []) := by
  obtain ⟨hx, hb, hr, hlocks, hml, hown, hE, hX, hsl, hbz, hL, hlst⟩ := C
  obtain ⟨k, r, P, hk, hw, hQ⟩ := op_impact l hlst Γ b mem hI (xs (i + 1)) (xs (i + 2))
  refine lv_aload_n hx hb dL_law_639 rfl (lv_at hl 2 rfl) ?_
  refine lv_aload_n hx hb dL_law_640 rfl (lv_at hl 1 rfl) ?_
  refine lv_iload hx hb dL_law_641 (lv_at hl 0 rfl) ?_
  refine lv_iconst (v := (nI 1)) hx hb dL_law_643 (by decide) ?_
  refine nn_iadd hx hb dL_law_644 ?_
  refine lw_sld hx hb hX hsl hbz hh (k := i + 1) (by omega) hL dL_law_645 ?_
  refine lv_aload_n hx hb dL_law_646 rfl (lv_at hl 1 rfl) ?_
  refine lv_iload hx hb dL_law_647 (lv_at hl 0 rfl) ?_
  refine lv_iconst (v := (nI 2)) hx hb dL_law_649 (by decide) ?_
  refine nn_iadd hx hb dL_law_650 ?_
  refine lw_sld hx hb hX hsl hbz hh (k := i + 2) (by omega) hL dL_law_651 ?_
  refine lv_aload_n hx hb dL_law_652 rfl (lv_at hl 4 rfl) ?_
  refine mw_S (As := [.ref (b + 0), .int (xs (i + 1)), .int (xs (i + 2)), .ref (b + 136)]) (rest := []) hx hb hml hown hE hl.1 hh (kw_impact hE.2.1 ⟨Nat.le_of_ble_eq_true rfl, Nat.le_of_ble_eq_true rfl⟩) hw rfl rfl (Nat.le_of_ble_eq_true rfl) dL_law_653 ⟨by show cells + 1 ≤ 601024; exact hcs.1, by show slots + 6 ≤ 7293034; exact hcs.2⟩ (fun H locs mem1 hP hh => ?_)
  obtain ⟨rm, P2, hrm, ⟨fs, f1⟩, hm, hZ⟩ := hQ mem1 hP
  refine lv_istore (lv' := [(6, .int (nI k)), (5, .int (nI i)), (0, .ref sa), (1, .ref (b + 0)), (2, .ref (b + 115)), (3, .ref (b + 136)), (4, .ref (b + 137))]) hx hb dL_law_656 hl (by decide) rfl (fun ls hl => ?_)
  refine lv_aload_n hx hb dL_law_658 rfl (lv_at hl 4 rfl) ?_
  refine lv_aload_n hx hb dL_law_659 rfl (lv_at hl 2 rfl) ?_
  refine lv_iload hx hb dL_law_660 (lv_at hl 1 rfl) ?_
  refine lv_iconst (v := (nI 1)) hx hb dL_law_662 (by decide) ?_
  refine nn_iadd hx hb dL_law_663 ?_
  refine lw_sld hx hb hX hsl hbz hh (k := i + 1) (by omega) hL dL_law_664 ?_
  refine lv_aload_n hx hb dL_law_665 rfl (lv_at hl 2 rfl) ?_
  refine lv_iload hx hb dL_law_666 (lv_at hl 1 rfl) ?_
  refine lv_iconst (v := (nI 2)) hx hb dL_law_668 (by decide) ?_
  refine nn_iadd hx hb dL_law_669 ?_
  refine lw_sld hx hb hX hsl hbz hh (k := i + 2) (by omega) hL dL_law_670 ?_
  refine lw_V (As := [.int (xs (i + 1)), .int (xs (i + 2))]) (rest := []) hx hb hml hown hE hl.1 hh (kc_L_114 hE.2.1 ⟨by show _ ≤ 12; have := hrm.2.1; omega, by show _ ≤ 430; have := hrm.2.2; omega⟩) hm rfl (by decide) f1 rfl rfl (Nat.le_of_ble_eq_true rfl) dL_law_671 hrm.1 ⟨by show cells + 1 ≤ 601024; exact hcs.1, by show slots + 6 ≤ 7293034; exact hcs.2⟩ (fun H locs mem2 hP2 hh => ?_)
  obtain ⟨hI2, hk2, hres⟩ := hZ mem2 hP2
  obtain ⟨_, _, _, _, _, _, _, _, _, _, _, fM⟩ := hk2
  refine lv_istore (lv' := [(7, .int r), (6, .int (nI k)), (5, .int (nI i)), (0, .ref sa), (1, .ref (b + 0)), (2, .ref (b + 115)), (3, .ref (b + 136)), (4, .ref (b + 137))]) hx hb dL_law_674 hl (by decide) rfl (fun ls hl => ?_)
  refine lv_aload_n hx hb dL_law_676 rfl (lv_at hl 5 rfl) ?_
  refine lw_V (As := []) (rest := []) hx hb hml hown hE hl.1 hh (kc_L_84 hE.2.1 ⟨Nat.le_of_ble_eq_true rfl, Nat.le_of_ble_eq_true rfl⟩) (c_X10_thrown l Γ b 138 mem2 (by decide) fM) rfl (by decide) fM rfl rfl (Nat.le_of_ble_eq_true rfl) dL_law_677 ⟨rfl, rfl⟩ ⟨by show cells + 1 ≤ 601024; exact hcs.1, by show slots + 6 ≤ 7293034; exact hcs.2⟩ (fun H locs mem3 e3 hh => ?_)
  rw [e3] at hh
  refine lv_iload hx hb dL_law_680 (lv_at hl 1 rfl) ?_
  refine nn_icmp_eq (tgt := 687) hx hb dL_law_682 (by decide) (by omega) (by omega) (fun _ => ?_) (fun h => absurd rfl h)
  refine lv_iload hx hb dL_law_687 (lv_at hl 1 rfl) ?_
  refine nn_if_ne (tgt := 704) hx hb dL_law_689 (by decide) (by omega) (fun _ => ?_) (fun hz => ?_)
  · refine lv_goto (tgt := 1468) hx hb dL_law_704 (by decide) ?_
    exact kk _ _ _ _ hI2 hh (lv_sub hl [2, 3, 4, 5, 6, 7] rfl)
  · obtain ⟨f, hf1, hf2⟩ := hres hz
    refine lv_aload_n hx hb dL_law_692 rfl (lv_at hl 6 rfl) ?_
    refine lv_iconst (v := (nI 0)) hx hb dL_law_693 (by decide) ?_
    refine mm_lald hx hb hE hh (k := 0) (by decide) hf1 (by decide) (by decide) dL_law_694 ?_
    rw [hf2]
    refine lv_iload hx hb dL_law_695 (lv_at hl 0 rfl) ?_
    refine lv_i2l hx hb dL_law_697 rfl ?_
    refine W.lcmp hx hb dL_law_698 ?_
    rw [lg_self]
    refine lv_if_eq (tgt := 704) hx hb dL_law_699 (by decide) (fun _ => ?_) (fun h => absurd rfl h)
    refine lv_goto (tgt := 1468) hx hb dL_law_704 (by decide) ?_
    exact kk _ _ _ _ hI2 hh (lv_sub hl [2, 3, 4, 5, 6, 7] rfl)
set_option maxHeartbeats 4000000 in
set_option maxRecDepth 100000 in
/-- the law: vector -/
theorem sg_8 (C : LwC p l s m meth c sa L xs Γ b) (hi : i + 6 ≤ L) (hcs : cells + 1 ≤ 601024 ∧ slots + 6 ≤ 7293034) (hI : Inv Γ b mem) (hh : GH Γ b 138 mem s H locs) (hl : lv_has ls 10 [(5, .int (nI i)), (0, .ref sa), (1, .ref (b + 0)), (2, .ref (b + 115)), (3, .ref (b + 136)), (4, .ref (b + 137))]) (kk : LK p l e s m below meth c sa Γ b i cells slots) : W p l e room_1 s m #[Value.ref sa] below meth c H locs cells slots (lw_Z below #[Value.ref sa] s) (F0 m 707 ls []) := by
  obtain ⟨hx, hb, hr, hlocks, hml, hown, hE, hX, hsl, hbz, hL, hlst⟩ := C
  obtain ⟨k, r, P, hk, hw, hQ⟩ := op_vector l hlst Γ b mem hI (FP.fmul (FP.i2f (xs (i + 1))) 1040187392) (FP.fmul (FP.i2f (xs (i + 2))) 1040187392) (FP.fmul (FP.i2f (xs (i + 3))) 1040187392) (FP.fmul (FP.i2f (xs (i + 4))) 1040187392)
  refine lv_aload_n hx hb dL_law_707 rfl (lv_at hl 2 rfl) ?_
  refine lv_aload_n hx hb dL_law_708 rfl (lv_at hl 1 rfl) ?_
  refine lv_iload hx hb dL_law_709 (lv_at hl 0 rfl) ?_
  refine lv_iconst (v := (nI 1)) hx hb dL_law_711 (by decide) ?_
  refine nn_iadd hx hb dL_law_712 ?_
  refine lw_sld hx hb hX hsl hbz hh (k := i + 1) (by omega) hL dL_law_713 ?_
  refine lv_i2f hx hb dL_law_714 ?_
  refine lv_ldcf hx hb hown (wk_L_91 hE.2.1 _) dL_law_715 ?_
  refine lv_fmul hx hb dL_law_717 (fm_n _) ?_
  refine lv_aload_n hx hb dL_law_718 rfl (lv_at hl 1 rfl) ?_
  refine lv_iload hx hb dL_law_719 (lv_at hl 0 rfl) ?_
  refine lv_iconst (v := (nI 2)) hx hb dL_law_721 (by decide) ?_
  refine nn_iadd hx hb dL_law_722 ?_
  refine lw_sld hx hb hX hsl hbz hh (k := i + 2) (by omega) hL dL_law_723 ?_
  refine lv_i2f hx hb dL_law_724 ?_
  refine lv_ldcf hx hb hown (wk_L_91 hE.2.1 _) dL_law_725 ?_
  refine lv_fmul hx hb dL_law_727 (fm_n _) ?_
  refine lv_aload_n hx hb dL_law_728 rfl (lv_at hl 1 rfl) ?_
  refine lv_iload hx hb dL_law_729 (lv_at hl 0 rfl) ?_
  refine lv_iconst (v := (nI 3)) hx hb dL_law_731 (by decide) ?_
  refine nn_iadd hx hb dL_law_732 ?_
  refine lw_sld hx hb hX hsl hbz hh (k := i + 3) (by omega) hL dL_law_733 ?_
  refine lv_i2f hx hb dL_law_734 ?_
  refine lv_ldcf hx hb hown (wk_L_91 hE.2.1 _) dL_law_735 ?_
  refine lv_fmul hx hb dL_law_737 (fm_n _) ?_
  refine lv_aload_n hx hb dL_law_738 rfl (lv_at hl 1 rfl) ?_
  refine lv_iload hx hb dL_law_739 (lv_at hl 0 rfl) ?_
  refine lv_iconst (v := (nI 4)) hx hb dL_law_741 (by decide) ?_
  refine nn_iadd hx hb dL_law_742 ?_
  refine lw_sld hx hb hX hsl hbz hh (k := i + 4) (by omega) hL dL_law_743 ?_
  refine lv_i2f hx hb dL_law_744 ?_
  refine lv_ldcf hx hb hown (wk_L_91 hE.2.1 _) dL_law_745 ?_
  refine lv_fmul hx hb dL_law_747 (fm_n _) ?_
  refine lv_aload_n hx hb dL_law_748 rfl (lv_at hl 4 rfl) ?_
  refine mw_S (As := [.ref (b + 0), .float (FP.fmul (FP.i2f (xs (i + 1))) 1040187392), .float (FP.fmul (FP.i2f (xs (i + 2))) 1040187392), .float (FP.fmul (FP.i2f (xs (i + 3))) 1040187392), .float (FP.fmul (FP.i2f (xs (i + 4))) 1040187392), .ref (b + 136)]) (rest := []) hx hb hml hown hE hl.1 hh (kw_vector hE.2.1 ⟨Nat.le_of_ble_eq_true rfl, Nat.le_of_ble_eq_true rfl⟩) hw rfl rfl (Nat.le_of_ble_eq_true rfl) dL_law_749 ⟨by show cells + 1 ≤ 601024; exact hcs.1, by show slots + 6 ≤ 7293034; exact hcs.2⟩ (fun H locs mem1 hP hh => ?_)
  obtain ⟨rm, P2, hrm, ⟨fs, f1⟩, hm, hZ⟩ := hQ mem1 hP
  refine lv_istore (lv' := [(6, .int (nI k)), (5, .int (nI i)), (0, .ref sa), (1, .ref (b + 0)), (2, .ref (b + 115)), (3, .ref (b + 136)), (4, .ref (b + 137))]) hx hb dL_law_752 hl (by decide) rfl (fun ls hl => ?_)
  refine lv_aload_n hx hb dL_law_754 rfl (lv_at hl 4 rfl) ?_
  refine lv_aload_n hx hb dL_law_755 rfl (lv_at hl 2 rfl) ?_
  refine lv_iload hx hb dL_law_756 (lv_at hl 1 rfl) ?_
  refine lv_iconst (v := (nI 1)) hx hb dL_law_758 (by decide) ?_
  refine nn_iadd hx hb dL_law_759 ?_
  refine lw_sld hx hb hX hsl hbz hh (k := i + 1) (by omega) hL dL_law_760 ?_
  refine lv_i2f hx hb dL_law_761 ?_
  refine lv_ldcf hx hb hown (wk_L_91 hE.2.1 _) dL_law_762 ?_
  refine lv_fmul hx hb dL_law_764 (fm_n _) ?_
  refine lv_aload_n hx hb dL_law_765 rfl (lv_at hl 2 rfl) ?_
  refine lv_iload hx hb dL_law_766 (lv_at hl 1 rfl) ?_
  refine lv_iconst (v := (nI 2)) hx hb dL_law_768 (by decide) ?_
  refine nn_iadd hx hb dL_law_769 ?_
  refine lw_sld hx hb hX hsl hbz hh (k := i + 2) (by omega) hL dL_law_770 ?_
  refine lv_i2f hx hb dL_law_771 ?_
  refine lv_ldcf hx hb hown (wk_L_91 hE.2.1 _) dL_law_772 ?_
  refine lv_fmul hx hb dL_law_774 (fm_n _) ?_
  refine lv_aload_n hx hb dL_law_775 rfl (lv_at hl 2 rfl) ?_
  refine lv_iload hx hb dL_law_776 (lv_at hl 1 rfl) ?_
  refine lv_iconst (v := (nI 3)) hx hb dL_law_778 (by decide) ?_
  refine nn_iadd hx hb dL_law_779 ?_
  refine lw_sld hx hb hX hsl hbz hh (k := i + 3) (by omega) hL dL_law_780 ?_
  refine lv_i2f hx hb dL_law_781 ?_
  refine lv_ldcf hx hb hown (wk_L_91 hE.2.1 _) dL_law_782 ?_
  refine lv_fmul hx hb dL_law_784 (fm_n _) ?_
  refine lv_aload_n hx hb dL_law_785 rfl (lv_at hl 2 rfl) ?_
  refine lv_iload hx hb dL_law_786 (lv_at hl 1 rfl) ?_
  refine lv_iconst (v := (nI 4)) hx hb dL_law_788 (by decide) ?_
  refine nn_iadd hx hb dL_law_789 ?_
  refine lw_sld hx hb hX hsl hbz hh (k := i + 4) (by omega) hL dL_law_790 ?_
  refine lv_i2f hx hb dL_law_791 ?_
  refine lv_ldcf hx hb hown (wk_L_91 hE.2.1 _) dL_law_792 ?_
  refine lv_fmul hx hb dL_law_794 (fm_n _) ?_
  refine lw_V (As := [.float (FP.fmul (FP.i2f (xs (i + 1))) 1040187392), .float (FP.fmul (FP.i2f (xs (i + 2))) 1040187392), .float (FP.fmul (FP.i2f (xs (i + 3))) 1040187392), .float (FP.fmul (FP.i2f (xs (i + 4))) 1040187392)]) (rest := []) hx hb hml hown hE hl.1 hh (kc_L_117 hE.2.1 ⟨by show _ ≤ 12; have := hrm.2.1; omega, by show _ ≤ 430; have := hrm.2.2; omega⟩) hm rfl (by decide) f1 rfl rfl (Nat.le_of_ble_eq_true rfl) dL_law_795 hrm.1 ⟨by show cells + 1 ≤ 601024; exact hcs.1, by show slots + 6 ≤ 7293034; exact hcs.2⟩ (fun H locs mem2 hP2 hh => ?_)
  obtain ⟨hI2, hk2, hres⟩ := hZ mem2 hP2
  obtain ⟨_, _, _, _, _, _, _, _, _, _, _, fM⟩ := hk2
  refine lv_istore (lv' := [(7, .int r), (6, .int (nI k)), (5, .int (nI i)), (0, .ref sa), (1, .ref (b + 0)), (2, .ref (b + 115)), (3, .ref (b + 136)), (4, .ref (b + 137))]) hx hb dL_law_798 hl (by decide) rfl (fun ls hl => ?_)
  refine lv_aload_n hx hb dL_law_800 rfl (lv_at hl 5 rfl) ?_
  refine lw_V (As := []) (rest := []) hx hb hml hown hE hl.1 hh (kc_L_84 hE.2.1 ⟨Nat.le_of_ble_eq_true rfl, Nat.le_of_ble_eq_true rfl⟩) (c_X10_thrown l Γ b 138 mem2 (by decide) fM) rfl (by decide) fM rfl rfl (Nat.le_of_ble_eq_true rfl) dL_law_801 ⟨rfl, rfl⟩ ⟨by show cells + 1 ≤ 601024; exact hcs.1, by show slots + 6 ≤ 7293034; exact hcs.2⟩ (fun H locs mem3 e3 hh => ?_)
  rw [e3] at hh
  refine lv_iload hx hb dL_law_804 (lv_at hl 1 rfl) ?_
  refine nn_icmp_eq (tgt := 811) hx hb dL_law_806 (by decide) (by omega) (by omega) (fun _ => ?_) (fun h => absurd rfl h)
  refine lv_iload hx hb dL_law_811 (lv_at hl 1 rfl) ?_
  refine nn_if_ne (tgt := 828) hx hb dL_law_813 (by decide) (by omega) (fun _ => ?_) (fun hz => ?_)
  · refine lv_goto (tgt := 1468) hx hb dL_law_828 (by decide) ?_
    exact kk _ _ _ _ hI2 hh (lv_sub hl [2, 3, 4, 5, 6, 7] rfl)
  · obtain ⟨f, hf1, hf2⟩ := hres hz
    refine lv_aload_n hx hb dL_law_816 rfl (lv_at hl 6 rfl) ?_
    refine lv_iconst (v := (nI 0)) hx hb dL_law_817 (by decide) ?_
    refine mm_lald hx hb hE hh (k := 0) (by decide) hf1 (by decide) (by decide) dL_law_818 ?_
    rw [hf2]
    refine lv_iload hx hb dL_law_819 (lv_at hl 0 rfl) ?_
    refine lv_i2l hx hb dL_law_821 rfl ?_
    refine W.lcmp hx hb dL_law_822 ?_
    rw [lg_self]
    refine lv_if_eq (tgt := 828) hx hb dL_law_823 (by decide) (fun _ => ?_) (fun h => absurd rfl h)
    refine lv_goto (tgt := 1468) hx hb dL_law_828 (by decide) ?_
    exact kk _ _ _ _ hI2 hh (lv_sub hl [2, 3, 4, 5, 6, 7] rfl)
set_option maxHeartbeats 4000000 in
set_option maxRecDepth 100000 in
/-- the law: search -/
theorem sg_9 (C : LwC p l s m meth c sa L xs Γ b) (hi : i + 6 ≤ L) (hcs : cells + 1 ≤ 601024 ∧ slots + 6 ≤ 7293034) (hI : Inv Γ b mem) (hh : GH Γ b 138 mem s H locs) (hl : lv_has ls 10 [(5, .int (nI i)), (0, .ref sa), (1, .ref (b + 0)), (2, .ref (b + 115)), (3, .ref (b + 136)), (4, .ref (b + 137))]) (kk : LK p l e s m below meth c sa Γ b i cells slots) : W p l e room_1 s m #[Value.ref sa] below meth c H locs cells slots (lw_Z below #[Value.ref sa] s) (F0 m 831 ls []) := by
  obtain ⟨hx, hb, hr, hlocks, hml, hown, hE, hX, hsl, hbz, hL, hlst⟩ := C
  obtain ⟨k, r, P, hk, hw, hQ⟩ := op_search l hlst Γ b mem hI (xs (i + 1)) (xs (i + 2)) (xs (i + 3)) (xs (i + 4))
  refine lv_aload_n hx hb dL_law_831 rfl (lv_at hl 2 rfl) ?_
  refine lv_aload_n hx hb dL_law_832 rfl (lv_at hl 1 rfl) ?_
  refine lv_iload hx hb dL_law_833 (lv_at hl 0 rfl) ?_
  refine lv_iconst (v := (nI 1)) hx hb dL_law_835 (by decide) ?_
  refine nn_iadd hx hb dL_law_836 ?_
  refine lw_sld hx hb hX hsl hbz hh (k := i + 1) (by omega) hL dL_law_837 ?_
  refine lv_aload_n hx hb dL_law_838 rfl (lv_at hl 1 rfl) ?_
  refine lv_iload hx hb dL_law_839 (lv_at hl 0 rfl) ?_
  refine lv_iconst (v := (nI 2)) hx hb dL_law_841 (by decide) ?_
  refine nn_iadd hx hb dL_law_842 ?_
  refine lw_sld hx hb hX hsl hbz hh (k := i + 2) (by omega) hL dL_law_843 ?_
  refine lv_aload_n hx hb dL_law_844 rfl (lv_at hl 1 rfl) ?_
  refine lv_iload hx hb dL_law_845 (lv_at hl 0 rfl) ?_
  refine lv_iconst (v := (nI 3)) hx hb dL_law_847 (by decide) ?_
  refine nn_iadd hx hb dL_law_848 ?_
  refine lw_sld hx hb hX hsl hbz hh (k := i + 3) (by omega) hL dL_law_849 ?_
  refine lv_aload_n hx hb dL_law_850 rfl (lv_at hl 1 rfl) ?_
  refine lv_iload hx hb dL_law_851 (lv_at hl 0 rfl) ?_
  refine lv_iconst (v := (nI 4)) hx hb dL_law_853 (by decide) ?_
  refine nn_iadd hx hb dL_law_854 ?_
  refine lw_sld hx hb hX hsl hbz hh (k := i + 4) (by omega) hL dL_law_855 ?_
  refine lv_aload_n hx hb dL_law_856 rfl (lv_at hl 4 rfl) ?_
  refine mw_S (As := [.ref (b + 0), .int (xs (i + 1)), .int (xs (i + 2)), .int (xs (i + 3)), .int (xs (i + 4)), .ref (b + 136)]) (rest := []) hx hb hml hown hE hl.1 hh (kw_search hE.2.1 ⟨Nat.le_of_ble_eq_true rfl, Nat.le_of_ble_eq_true rfl⟩) hw rfl rfl (Nat.le_of_ble_eq_true rfl) dL_law_857 ⟨by show cells + 1 ≤ 601024; exact hcs.1, by show slots + 6 ≤ 7293034; exact hcs.2⟩ (fun H locs mem1 hP hh => ?_)
  obtain ⟨rm, P2, hrm, ⟨fs, f1⟩, hm, hZ⟩ := hQ mem1 hP
  refine lv_istore (lv' := [(6, .int (nI k)), (5, .int (nI i)), (0, .ref sa), (1, .ref (b + 0)), (2, .ref (b + 115)), (3, .ref (b + 136)), (4, .ref (b + 137))]) hx hb dL_law_860 hl (by decide) rfl (fun ls hl => ?_)
  refine lv_aload_n hx hb dL_law_862 rfl (lv_at hl 4 rfl) ?_
  refine lv_aload_n hx hb dL_law_863 rfl (lv_at hl 2 rfl) ?_
  refine lv_iload hx hb dL_law_864 (lv_at hl 1 rfl) ?_
  refine lv_iconst (v := (nI 1)) hx hb dL_law_866 (by decide) ?_
  refine nn_iadd hx hb dL_law_867 ?_
  refine lw_sld hx hb hX hsl hbz hh (k := i + 1) (by omega) hL dL_law_868 ?_
  refine lv_aload_n hx hb dL_law_869 rfl (lv_at hl 2 rfl) ?_
  refine lv_iload hx hb dL_law_870 (lv_at hl 1 rfl) ?_
  refine lv_iconst (v := (nI 2)) hx hb dL_law_872 (by decide) ?_
  refine nn_iadd hx hb dL_law_873 ?_
  refine lw_sld hx hb hX hsl hbz hh (k := i + 2) (by omega) hL dL_law_874 ?_
  refine lv_aload_n hx hb dL_law_875 rfl (lv_at hl 2 rfl) ?_
  refine lv_iload hx hb dL_law_876 (lv_at hl 1 rfl) ?_
  refine lv_iconst (v := (nI 3)) hx hb dL_law_878 (by decide) ?_
  refine nn_iadd hx hb dL_law_879 ?_
  refine lw_sld hx hb hX hsl hbz hh (k := i + 3) (by omega) hL dL_law_880 ?_
  refine lv_aload_n hx hb dL_law_881 rfl (lv_at hl 2 rfl) ?_
  refine lv_iload hx hb dL_law_882 (lv_at hl 1 rfl) ?_
  refine lv_iconst (v := (nI 4)) hx hb dL_law_884 (by decide) ?_
  refine nn_iadd hx hb dL_law_885 ?_
  refine lw_sld hx hb hX hsl hbz hh (k := i + 4) (by omega) hL dL_law_886 ?_
  refine lw_V (As := [.int (xs (i + 1)), .int (xs (i + 2)), .int (xs (i + 3)), .int (xs (i + 4))]) (rest := []) hx hb hml hown hE hl.1 hh (kc_L_121 hE.2.1 ⟨by show _ ≤ 12; have := hrm.2.1; omega, by show _ ≤ 430; have := hrm.2.2; omega⟩) hm rfl (by decide) f1 rfl rfl (Nat.le_of_ble_eq_true rfl) dL_law_887 hrm.1 ⟨by show cells + 1 ≤ 601024; exact hcs.1, by show slots + 6 ≤ 7293034; exact hcs.2⟩ (fun H locs mem2 hP2 hh => ?_)
  obtain ⟨hI2, hk2, hres⟩ := hZ mem2 hP2
  obtain ⟨_, _, _, _, _, _, _, _, _, _, _, fM⟩ := hk2
  refine lv_istore (lv' := [(7, .int r), (6, .int (nI k)), (5, .int (nI i)), (0, .ref sa), (1, .ref (b + 0)), (2, .ref (b + 115)), (3, .ref (b + 136)), (4, .ref (b + 137))]) hx hb dL_law_890 hl (by decide) rfl (fun ls hl => ?_)
  refine lv_aload_n hx hb dL_law_892 rfl (lv_at hl 5 rfl) ?_
  refine lw_V (As := []) (rest := []) hx hb hml hown hE hl.1 hh (kc_L_84 hE.2.1 ⟨Nat.le_of_ble_eq_true rfl, Nat.le_of_ble_eq_true rfl⟩) (c_X10_thrown l Γ b 138 mem2 (by decide) fM) rfl (by decide) fM rfl rfl (Nat.le_of_ble_eq_true rfl) dL_law_893 ⟨rfl, rfl⟩ ⟨by show cells + 1 ≤ 601024; exact hcs.1, by show slots + 6 ≤ 7293034; exact hcs.2⟩ (fun H locs mem3 e3 hh => ?_)
  rw [e3] at hh
  refine lv_iload hx hb dL_law_896 (lv_at hl 1 rfl) ?_
  refine nn_icmp_eq (tgt := 903) hx hb dL_law_898 (by decide) (by omega) (by omega) (fun _ => ?_) (fun h => absurd rfl h)
  refine lv_iload hx hb dL_law_903 (lv_at hl 1 rfl) ?_
  refine nn_if_ne (tgt := 920) hx hb dL_law_905 (by decide) (by omega) (fun _ => ?_) (fun hz => ?_)
  · refine lv_goto (tgt := 1468) hx hb dL_law_920 (by decide) ?_
    exact kk _ _ _ _ hI2 hh (lv_sub hl [2, 3, 4, 5, 6, 7] rfl)
  · obtain ⟨f, hf1, hf2⟩ := hres hz
    refine lv_aload_n hx hb dL_law_908 rfl (lv_at hl 6 rfl) ?_
    refine lv_iconst (v := (nI 0)) hx hb dL_law_909 (by decide) ?_
    refine mm_lald hx hb hE hh (k := 0) (by decide) hf1 (by decide) (by decide) dL_law_910 ?_
    rw [hf2]
    refine lv_iload hx hb dL_law_911 (lv_at hl 0 rfl) ?_
    refine lv_i2l hx hb dL_law_913 rfl ?_
    refine W.lcmp hx hb dL_law_914 ?_
    rw [lg_self]
    refine lv_if_eq (tgt := 920) hx hb dL_law_915 (by decide) (fun _ => ?_) (fun h => absurd rfl h)
    refine lv_goto (tgt := 1468) hx hb dL_law_920 (by decide) ?_
    exact kk _ _ _ _ hI2 hh (lv_sub hl [2, 3, 4, 5, 6, 7] rfl)
set_option maxHeartbeats 4000000 in
set_option maxRecDepth 100000 in
/-- the law: hit -/
theorem sg_10 (C : LwC p l s m meth c sa L xs Γ b) (hi : i + 6 ≤ L) (hcs : cells + 1 ≤ 601024 ∧ slots + 6 ≤ 7293034) (hI : Inv Γ b mem) (hh : GH Γ b 138 mem s H locs) (hl : lv_has ls 10 [(5, .int (nI i)), (0, .ref sa), (1, .ref (b + 0)), (2, .ref (b + 115)), (3, .ref (b + 136)), (4, .ref (b + 137))]) (kk : LK p l e s m below meth c sa Γ b i cells slots) : W p l e room_1 s m #[Value.ref sa] below meth c H locs cells slots (lw_Z below #[Value.ref sa] s) (F0 m 923 ls []) := by
  obtain ⟨hx, hb, hr, hlocks, hml, hown, hE, hX, hsl, hbz, hL, hlst⟩ := C
  obtain ⟨k, r, P, hk, hw, hQ⟩ := op_hit l hlst Γ b mem hI (xs (i + 1)) (xs (i + 2))
  refine lv_aload_n hx hb dL_law_923 rfl (lv_at hl 2 rfl) ?_
  refine lv_aload_n hx hb dL_law_924 rfl (lv_at hl 1 rfl) ?_
  refine lv_iload hx hb dL_law_925 (lv_at hl 0 rfl) ?_
  refine lv_iconst (v := (nI 1)) hx hb dL_law_927 (by decide) ?_
  refine nn_iadd hx hb dL_law_928 ?_
  refine lw_sld hx hb hX hsl hbz hh (k := i + 1) (by omega) hL dL_law_929 ?_
  refine lv_aload_n hx hb dL_law_930 rfl (lv_at hl 1 rfl) ?_
  refine lv_iload hx hb dL_law_931 (lv_at hl 0 rfl) ?_
  refine lv_iconst (v := (nI 2)) hx hb dL_law_933 (by decide) ?_
  refine nn_iadd hx hb dL_law_934 ?_
  refine lw_sld hx hb hX hsl hbz hh (k := i + 2) (by omega) hL dL_law_935 ?_
  refine lv_aload_n hx hb dL_law_936 rfl (lv_at hl 4 rfl) ?_
  refine mw_S (As := [.ref (b + 0), .int (xs (i + 1)), .int (xs (i + 2)), .ref (b + 136)]) (rest := []) hx hb hml hown hE hl.1 hh (kw_hit hE.2.1 ⟨Nat.le_of_ble_eq_true rfl, Nat.le_of_ble_eq_true rfl⟩) hw rfl rfl (Nat.le_of_ble_eq_true rfl) dL_law_937 ⟨by show cells + 1 ≤ 601024; exact hcs.1, by show slots + 6 ≤ 7293034; exact hcs.2⟩ (fun H locs mem1 hP hh => ?_)
  obtain ⟨rm, P2, hrm, ⟨fs, f1⟩, hm, hZ⟩ := hQ mem1 hP
  refine lv_istore (lv' := [(6, .int (nI k)), (5, .int (nI i)), (0, .ref sa), (1, .ref (b + 0)), (2, .ref (b + 115)), (3, .ref (b + 136)), (4, .ref (b + 137))]) hx hb dL_law_940 hl (by decide) rfl (fun ls hl => ?_)
  refine lv_aload_n hx hb dL_law_942 rfl (lv_at hl 4 rfl) ?_
  refine lv_aload_n hx hb dL_law_943 rfl (lv_at hl 2 rfl) ?_
  refine lv_iload hx hb dL_law_944 (lv_at hl 1 rfl) ?_
  refine lv_iconst (v := (nI 1)) hx hb dL_law_946 (by decide) ?_
  refine nn_iadd hx hb dL_law_947 ?_
  refine lw_sld hx hb hX hsl hbz hh (k := i + 1) (by omega) hL dL_law_948 ?_
  refine lv_aload_n hx hb dL_law_949 rfl (lv_at hl 2 rfl) ?_
  refine lv_iload hx hb dL_law_950 (lv_at hl 1 rfl) ?_
  refine lv_iconst (v := (nI 2)) hx hb dL_law_952 (by decide) ?_
  refine nn_iadd hx hb dL_law_953 ?_
  refine lw_sld hx hb hX hsl hbz hh (k := i + 2) (by omega) hL dL_law_954 ?_
  refine lw_V (As := [.int (xs (i + 1)), .int (xs (i + 2))]) (rest := []) hx hb hml hown hE hl.1 hh (kc_L_124 hE.2.1 ⟨by show _ ≤ 12; have := hrm.2.1; omega, by show _ ≤ 430; have := hrm.2.2; omega⟩) hm rfl (by decide) f1 rfl rfl (Nat.le_of_ble_eq_true rfl) dL_law_955 hrm.1 ⟨by show cells + 1 ≤ 601024; exact hcs.1, by show slots + 6 ≤ 7293034; exact hcs.2⟩ (fun H locs mem2 hP2 hh => ?_)
  obtain ⟨hI2, hk2, hres⟩ := hZ mem2 hP2
  obtain ⟨_, _, _, _, _, _, _, _, _, _, _, fM⟩ := hk2
  refine lv_istore (lv' := [(7, .int r), (6, .int (nI k)), (5, .int (nI i)), (0, .ref sa), (1, .ref (b + 0)), (2, .ref (b + 115)), (3, .ref (b + 136)), (4, .ref (b + 137))]) hx hb dL_law_958 hl (by decide) rfl (fun ls hl => ?_)
  refine lv_aload_n hx hb dL_law_960 rfl (lv_at hl 5 rfl) ?_
  refine lw_V (As := []) (rest := []) hx hb hml hown hE hl.1 hh (kc_L_84 hE.2.1 ⟨Nat.le_of_ble_eq_true rfl, Nat.le_of_ble_eq_true rfl⟩) (c_X10_thrown l Γ b 138 mem2 (by decide) fM) rfl (by decide) fM rfl rfl (Nat.le_of_ble_eq_true rfl) dL_law_961 ⟨rfl, rfl⟩ ⟨by show cells + 1 ≤ 601024; exact hcs.1, by show slots + 6 ≤ 7293034; exact hcs.2⟩ (fun H locs mem3 e3 hh => ?_)
  rw [e3] at hh
  refine lv_iload hx hb dL_law_964 (lv_at hl 1 rfl) ?_
  refine nn_icmp_eq (tgt := 971) hx hb dL_law_966 (by decide) (by omega) (by omega) (fun _ => ?_) (fun h => absurd rfl h)
  refine lv_iload hx hb dL_law_971 (lv_at hl 1 rfl) ?_
  refine nn_if_ne (tgt := 988) hx hb dL_law_973 (by decide) (by omega) (fun _ => ?_) (fun hz => ?_)
  · refine lv_goto (tgt := 1468) hx hb dL_law_988 (by decide) ?_
    exact kk _ _ _ _ hI2 hh (lv_sub hl [2, 3, 4, 5, 6, 7] rfl)
  · obtain ⟨f, hf1, hf2⟩ := hres hz
    refine lv_aload_n hx hb dL_law_976 rfl (lv_at hl 6 rfl) ?_
    refine lv_iconst (v := (nI 0)) hx hb dL_law_977 (by decide) ?_
    refine mm_lald hx hb hE hh (k := 0) (by decide) hf1 (by decide) (by decide) dL_law_978 ?_
    rw [hf2]
    refine lv_iload hx hb dL_law_979 (lv_at hl 0 rfl) ?_
    refine lv_i2l hx hb dL_law_981 rfl ?_
    refine W.lcmp hx hb dL_law_982 ?_
    rw [lg_self]
    refine lv_if_eq (tgt := 988) hx hb dL_law_983 (by decide) (fun _ => ?_) (fun h => absurd rfl h)
    refine lv_goto (tgt := 1468) hx hb dL_law_988 (by decide) ?_
    exact kk _ _ _ _ hI2 hh (lv_sub hl [2, 3, 4, 5, 6, 7] rfl)
set_option maxHeartbeats 4000000 in
set_option maxRecDepth 100000 in
/-- the law: score -/
theorem sg_11 (C : LwC p l s m meth c sa L xs Γ b) (hi : i + 6 ≤ L) (hcs : cells + 1 ≤ 601024 ∧ slots + 6 ≤ 7293034) (hI : Inv Γ b mem) (hh : GH Γ b 138 mem s H locs) (hl : lv_has ls 10 [(5, .int (nI i)), (0, .ref sa), (1, .ref (b + 0)), (2, .ref (b + 115)), (3, .ref (b + 136)), (4, .ref (b + 137))]) (kk : LK p l e s m below meth c sa Γ b i cells slots) : W p l e room_1 s m #[Value.ref sa] below meth c H locs cells slots (lw_Z below #[Value.ref sa] s) (F0 m 991 ls []) := by
  obtain ⟨hx, hb, hr, hlocks, hml, hown, hE, hX, hsl, hbz, hL, hlst⟩ := C
  obtain ⟨k, r, P, hk, hw, hQ⟩ := op_score l hlst Γ b mem hI (xs (i + 1)) (xs (i + 2))
  refine lv_aload_n hx hb dL_law_991 rfl (lv_at hl 2 rfl) ?_
  refine lv_aload_n hx hb dL_law_992 rfl (lv_at hl 1 rfl) ?_
  refine lv_iload hx hb dL_law_993 (lv_at hl 0 rfl) ?_
  refine lv_iconst (v := (nI 1)) hx hb dL_law_995 (by decide) ?_
  refine nn_iadd hx hb dL_law_996 ?_
  refine lw_sld hx hb hX hsl hbz hh (k := i + 1) (by omega) hL dL_law_997 ?_
  refine lv_aload_n hx hb dL_law_998 rfl (lv_at hl 1 rfl) ?_
  refine lv_iload hx hb dL_law_999 (lv_at hl 0 rfl) ?_
  refine lv_iconst (v := (nI 2)) hx hb dL_law_1001 (by decide) ?_
  refine nn_iadd hx hb dL_law_1002 ?_
  refine lw_sld hx hb hX hsl hbz hh (k := i + 2) (by omega) hL dL_law_1003 ?_
  refine lv_aload hx hb dL_law_1004 (lv_at hl 5 rfl) ?_
  refine mw_S (As := [.ref (b + 0), .int (xs (i + 1)), .int (xs (i + 2)), .ref (b + 137)]) (rest := []) hx hb hml hown hE hl.1 hh (kw_score hE.2.1 ⟨Nat.le_of_ble_eq_true rfl, Nat.le_of_ble_eq_true rfl⟩) hw rfl rfl (Nat.le_of_ble_eq_true rfl) dL_law_1006 ⟨by show cells + 1 ≤ 601024; exact hcs.1, by show slots + 6 ≤ 7293034; exact hcs.2⟩ (fun H locs mem1 hP hh => ?_)
  obtain ⟨rm, P2, hrm, ⟨fs, f1⟩, hm, hZ⟩ := hQ mem1 hP
  refine lv_istore (lv' := [(6, .int (nI k)), (5, .int (nI i)), (0, .ref sa), (1, .ref (b + 0)), (2, .ref (b + 115)), (3, .ref (b + 136)), (4, .ref (b + 137))]) hx hb dL_law_1009 hl (by decide) rfl (fun ls hl => ?_)
  refine lv_aload_n hx hb dL_law_1011 rfl (lv_at hl 4 rfl) ?_
  refine lv_aload_n hx hb dL_law_1012 rfl (lv_at hl 2 rfl) ?_
  refine lv_iload hx hb dL_law_1013 (lv_at hl 1 rfl) ?_
  refine lv_iconst (v := (nI 1)) hx hb dL_law_1015 (by decide) ?_
  refine nn_iadd hx hb dL_law_1016 ?_
  refine lw_sld hx hb hX hsl hbz hh (k := i + 1) (by omega) hL dL_law_1017 ?_
  refine lv_aload_n hx hb dL_law_1018 rfl (lv_at hl 2 rfl) ?_
  refine lv_iload hx hb dL_law_1019 (lv_at hl 1 rfl) ?_
  refine lv_iconst (v := (nI 2)) hx hb dL_law_1021 (by decide) ?_
  refine nn_iadd hx hb dL_law_1022 ?_
  refine lw_sld hx hb hX hsl hbz hh (k := i + 2) (by omega) hL dL_law_1023 ?_
  refine lw_V (As := [.int (xs (i + 1)), .int (xs (i + 2))]) (rest := []) hx hb hml hown hE hl.1 hh (kc_L_128 hE.2.1 ⟨by show _ ≤ 12; have := hrm.2.1; omega, by show _ ≤ 430; have := hrm.2.2; omega⟩) hm rfl (by decide) f1 rfl rfl (Nat.le_of_ble_eq_true rfl) dL_law_1024 hrm.1 ⟨by show cells + 1 ≤ 601024; exact hcs.1, by show slots + 6 ≤ 7293034; exact hcs.2⟩ (fun H locs mem2 hP2 hh => ?_)
  obtain ⟨hI2, hk2, hres⟩ := hZ mem2 hP2
  obtain ⟨_, _, _, _, _, _, _, _, _, _, _, fM⟩ := hk2
  refine lv_dstore (lv' := [(7, .double r), (6, .int (nI k)), (5, .int (nI i)), (0, .ref sa), (1, .ref (b + 0)), (2, .ref (b + 115)), (3, .ref (b + 136)), (4, .ref (b + 137))]) hx hb dL_law_1027 hl (by decide) rfl (fun ls hl => ?_)
  refine lv_aload_n hx hb dL_law_1029 rfl (lv_at hl 5 rfl) ?_
  refine lw_V (As := []) (rest := []) hx hb hml hown hE hl.1 hh (kc_L_84 hE.2.1 ⟨Nat.le_of_ble_eq_true rfl, Nat.le_of_ble_eq_true rfl⟩) (c_X10_thrown l Γ b 138 mem2 (by decide) fM) rfl (by decide) fM rfl rfl (Nat.le_of_ble_eq_true rfl) dL_law_1030 ⟨rfl, rfl⟩ ⟨by show cells + 1 ≤ 601024; exact hcs.1, by show slots + 6 ≤ 7293034; exact hcs.2⟩ (fun H locs mem3 e3 hh => ?_)
  rw [e3] at hh
  refine lv_iload hx hb dL_law_1033 (lv_at hl 1 rfl) ?_
  refine nn_icmp_eq (tgt := 1040) hx hb dL_law_1035 (by decide) (by omega) (by omega) (fun _ => ?_) (fun h => absurd rfl h)
  refine lv_iload hx hb dL_law_1040 (lv_at hl 1 rfl) ?_
  refine nn_if_ne (tgt := 1077) hx hb dL_law_1042 (by decide) (by omega) (fun _ => ?_) (fun hz => ?_)
  · refine lv_goto (tgt := 1468) hx hb dL_law_1077 (by decide) ?_
    exact kk _ _ _ _ hI2 hh (lv_sub hl [2, 3, 4, 5, 6, 7] rfl)
  · obtain ⟨f, hf1, hf2⟩ := hres hz
    refine lv_aload hx hb dL_law_1045 (lv_at hl 7 rfl) ?_
    refine lv_iconst (v := (nI 0)) hx hb dL_law_1047 (by decide) ?_
    refine mm_dald hx hb hE hh (k := 0) (by decide) hf1 (by decide) (by decide) dL_law_1048 ?_
    rw [hf2]
    refine lv_dload hx hb dL_law_1049 (lv_at hl 0 rfl) ?_
    refine lv_dcmp hx hb dL_law_1051 ?_
    refine nn_cl_eq (tgt := 1077) hx hb dL_law_1052 (by decide) (fun _ => ?_) (fun hne => ?_)
    · refine lv_goto (tgt := 1468) hx hb dL_law_1077 (by decide) ?_
      exact kk _ _ _ _ hI2 hh (lv_sub hl [2, 3, 4, 5, 6, 7] rfl)
    ·
      refine lv_aload hx hb dL_law_1055 (lv_at hl 7 rfl) ?_
      refine lv_iconst (v := (nI 0)) hx hb dL_law_1057 (by decide) ?_
      refine mm_dald hx hb hE hh (k := 0) (by decide) hf1 (by decide) (by decide) dL_law_1058 ?_
      rw [hf2]
      refine lv_aload hx hb dL_law_1059 (lv_at hl 7 rfl) ?_
      refine lv_iconst (v := (nI 0)) hx hb dL_law_1061 (by decide) ?_
      refine mm_dald hx hb hE hh (k := 0) (by decide) hf1 (by decide) (by decide) dL_law_1062 ?_
      rw [hf2]
      refine lv_dcmp hx hb dL_law_1063 ?_
      refine nn_cl_eq (tgt := 1075) hx hb dL_law_1064 (by decide) (fun h => absurd h hne) (fun _ => ?_)
      refine lv_dload hx hb dL_law_1067 (lv_at hl 0 rfl) ?_
      refine lv_dload hx hb dL_law_1069 (lv_at hl 0 rfl) ?_
      refine lv_dcmp hx hb dL_law_1071 ?_
      refine nn_cl_ne (tgt := 1077) hx hb dL_law_1072 (by decide) (fun _ => ?_) (fun h => absurd hne h)
      refine lv_goto (tgt := 1468) hx hb dL_law_1077 (by decide) ?_
      exact kk _ _ _ _ hI2 hh (lv_sub hl [2, 3, 4, 5, 6, 7] rfl)
set_option maxHeartbeats 4000000 in
set_option maxRecDepth 100000 in
/-- the law: work -/
theorem sg_12 (C : LwC p l s m meth c sa L xs Γ b) (hi : i + 6 ≤ L) (hcs : cells + 1 ≤ 601024 ∧ slots + 6 ≤ 7293034) (hI : Inv Γ b mem) (hh : GH Γ b 138 mem s H locs) (hl : lv_has ls 10 [(5, .int (nI i)), (0, .ref sa), (1, .ref (b + 0)), (2, .ref (b + 115)), (3, .ref (b + 136)), (4, .ref (b + 137))]) (kk : LK p l e s m below meth c sa Γ b i cells slots) : W p l e room_1 s m #[Value.ref sa] below meth c H locs cells slots (lw_Z below #[Value.ref sa] s) (F0 m 1080 ls []) := by
  obtain ⟨hx, hb, hr, hlocks, hml, hown, hE, hX, hsl, hbz, hL, hlst⟩ := C
  obtain ⟨k, r, P, hk, hw, hQ⟩ := op_work l hlst Γ b mem hI (xs (i + 1)) (xs (i + 2))
  refine lv_aload_n hx hb dL_law_1080 rfl (lv_at hl 2 rfl) ?_
  refine lv_aload_n hx hb dL_law_1081 rfl (lv_at hl 1 rfl) ?_
  refine lv_iload hx hb dL_law_1082 (lv_at hl 0 rfl) ?_
  refine lv_iconst (v := (nI 1)) hx hb dL_law_1084 (by decide) ?_
  refine nn_iadd hx hb dL_law_1085 ?_
  refine lw_sld hx hb hX hsl hbz hh (k := i + 1) (by omega) hL dL_law_1086 ?_
  refine lv_aload_n hx hb dL_law_1087 rfl (lv_at hl 1 rfl) ?_
  refine lv_iload hx hb dL_law_1088 (lv_at hl 0 rfl) ?_
  refine lv_iconst (v := (nI 2)) hx hb dL_law_1090 (by decide) ?_
  refine nn_iadd hx hb dL_law_1091 ?_
  refine lw_sld hx hb hX hsl hbz hh (k := i + 2) (by omega) hL dL_law_1092 ?_
  refine lv_aload_n hx hb dL_law_1093 rfl (lv_at hl 4 rfl) ?_
  refine mw_S (As := [.ref (b + 0), .int (xs (i + 1)), .int (xs (i + 2)), .ref (b + 136)]) (rest := []) hx hb hml hown hE hl.1 hh (kw_work hE.2.1 ⟨Nat.le_of_ble_eq_true rfl, Nat.le_of_ble_eq_true rfl⟩) hw rfl rfl (Nat.le_of_ble_eq_true rfl) dL_law_1094 ⟨by show cells + 1 ≤ 601024; exact hcs.1, by show slots + 6 ≤ 7293034; exact hcs.2⟩ (fun H locs mem1 hP hh => ?_)
  obtain ⟨rm, P2, hrm, ⟨fs, f1⟩, hm, hZ⟩ := hQ mem1 hP
  refine lv_istore (lv' := [(6, .int (nI k)), (5, .int (nI i)), (0, .ref sa), (1, .ref (b + 0)), (2, .ref (b + 115)), (3, .ref (b + 136)), (4, .ref (b + 137))]) hx hb dL_law_1097 hl (by decide) rfl (fun ls hl => ?_)
  refine lv_aload_n hx hb dL_law_1099 rfl (lv_at hl 4 rfl) ?_
  refine lv_aload_n hx hb dL_law_1100 rfl (lv_at hl 2 rfl) ?_
  refine lv_iload hx hb dL_law_1101 (lv_at hl 1 rfl) ?_
  refine lv_iconst (v := (nI 1)) hx hb dL_law_1103 (by decide) ?_
  refine nn_iadd hx hb dL_law_1104 ?_
  refine lw_sld hx hb hX hsl hbz hh (k := i + 1) (by omega) hL dL_law_1105 ?_
  refine lv_aload_n hx hb dL_law_1106 rfl (lv_at hl 2 rfl) ?_
  refine lv_iload hx hb dL_law_1107 (lv_at hl 1 rfl) ?_
  refine lv_iconst (v := (nI 2)) hx hb dL_law_1109 (by decide) ?_
  refine nn_iadd hx hb dL_law_1110 ?_
  refine lw_sld hx hb hX hsl hbz hh (k := i + 2) (by omega) hL dL_law_1111 ?_
  refine lw_V (As := [.int (xs (i + 1)), .int (xs (i + 2))]) (rest := []) hx hb hml hown hE hl.1 hh (kc_L_131 hE.2.1 ⟨by show _ ≤ 12; have := hrm.2.1; omega, by show _ ≤ 430; have := hrm.2.2; omega⟩) hm rfl (by decide) f1 rfl rfl (Nat.le_of_ble_eq_true rfl) dL_law_1112 hrm.1 ⟨by show cells + 1 ≤ 601024; exact hcs.1, by show slots + 6 ≤ 7293034; exact hcs.2⟩ (fun H locs mem2 hP2 hh => ?_)
  obtain ⟨hI2, hk2, hres⟩ := hZ mem2 hP2
  obtain ⟨_, _, _, _, _, _, _, _, _, _, _, fM⟩ := hk2
  refine lv_istore (lv' := [(7, .int r), (6, .int (nI k)), (5, .int (nI i)), (0, .ref sa), (1, .ref (b + 0)), (2, .ref (b + 115)), (3, .ref (b + 136)), (4, .ref (b + 137))]) hx hb dL_law_1115 hl (by decide) rfl (fun ls hl => ?_)
  refine lv_aload_n hx hb dL_law_1117 rfl (lv_at hl 5 rfl) ?_
  refine lw_V (As := []) (rest := []) hx hb hml hown hE hl.1 hh (kc_L_84 hE.2.1 ⟨Nat.le_of_ble_eq_true rfl, Nat.le_of_ble_eq_true rfl⟩) (c_X10_thrown l Γ b 138 mem2 (by decide) fM) rfl (by decide) fM rfl rfl (Nat.le_of_ble_eq_true rfl) dL_law_1118 ⟨rfl, rfl⟩ ⟨by show cells + 1 ≤ 601024; exact hcs.1, by show slots + 6 ≤ 7293034; exact hcs.2⟩ (fun H locs mem3 e3 hh => ?_)
  rw [e3] at hh
  refine lv_iload hx hb dL_law_1121 (lv_at hl 1 rfl) ?_
  refine nn_icmp_eq (tgt := 1128) hx hb dL_law_1123 (by decide) (by omega) (by omega) (fun _ => ?_) (fun h => absurd rfl h)
  refine lv_iload hx hb dL_law_1128 (lv_at hl 1 rfl) ?_
  refine nn_if_ne (tgt := 1145) hx hb dL_law_1130 (by decide) (by omega) (fun _ => ?_) (fun hz => ?_)
  · refine lv_goto (tgt := 1468) hx hb dL_law_1145 (by decide) ?_
    exact kk _ _ _ _ hI2 hh (lv_sub hl [2, 3, 4, 5, 6, 7] rfl)
  · obtain ⟨f, hf1, hf2⟩ := hres hz
    refine lv_aload_n hx hb dL_law_1133 rfl (lv_at hl 6 rfl) ?_
    refine lv_iconst (v := (nI 0)) hx hb dL_law_1134 (by decide) ?_
    refine mm_lald hx hb hE hh (k := 0) (by decide) hf1 (by decide) (by decide) dL_law_1135 ?_
    rw [hf2]
    refine lv_iload hx hb dL_law_1136 (lv_at hl 0 rfl) ?_
    refine lv_i2l hx hb dL_law_1138 rfl ?_
    refine W.lcmp hx hb dL_law_1139 ?_
    rw [lg_self]
    refine lv_if_eq (tgt := 1145) hx hb dL_law_1140 (by decide) (fun _ => ?_) (fun h => absurd rfl h)
    refine lv_goto (tgt := 1468) hx hb dL_law_1145 (by decide) ?_
    exact kk _ _ _ _ hI2 hh (lv_sub hl [2, 3, 4, 5, 6, 7] rfl)
set_option maxHeartbeats 4000000 in
set_option maxRecDepth 100000 in
/-- the law: fuse -/
theorem sg_13 (C : LwC p l s m meth c sa L xs Γ b) (hi : i + 6 ≤ L) (hcs : cells + 1 ≤ 601024 ∧ slots + 6 ≤ 7293034) (hI : Inv Γ b mem) (hh : GH Γ b 138 mem s H locs) (hl : lv_has ls 10 [(5, .int (nI i)), (0, .ref sa), (1, .ref (b + 0)), (2, .ref (b + 115)), (3, .ref (b + 136)), (4, .ref (b + 137))]) (kk : LK p l e s m below meth c sa Γ b i cells slots) : W p l e room_1 s m #[Value.ref sa] below meth c H locs cells slots (lw_Z below #[Value.ref sa] s) (F0 m 1148 ls []) := by
  obtain ⟨hx, hb, hr, hlocks, hml, hown, hE, hX, hsl, hbz, hL, hlst⟩ := C
  obtain ⟨k, r, P, hk, hw, hQ⟩ := op_fuse l hlst Γ b mem hI (xs (i + 1))
  refine lv_aload_n hx hb dL_law_1148 rfl (lv_at hl 2 rfl) ?_
  refine lv_aload_n hx hb dL_law_1149 rfl (lv_at hl 1 rfl) ?_
  refine lv_iload hx hb dL_law_1150 (lv_at hl 0 rfl) ?_
  refine lv_iconst (v := (nI 1)) hx hb dL_law_1152 (by decide) ?_
  refine nn_iadd hx hb dL_law_1153 ?_
  refine lw_sld hx hb hX hsl hbz hh (k := i + 1) (by omega) hL dL_law_1154 ?_
  refine lv_aload_n hx hb dL_law_1155 rfl (lv_at hl 4 rfl) ?_
  refine mw_S (As := [.ref (b + 0), .int (xs (i + 1)), .ref (b + 136)]) (rest := []) hx hb hml hown hE hl.1 hh (kw_fuse hE.2.1 ⟨Nat.le_of_ble_eq_true rfl, Nat.le_of_ble_eq_true rfl⟩) hw rfl rfl (Nat.le_of_ble_eq_true rfl) dL_law_1156 ⟨by show cells + 1 ≤ 601024; exact hcs.1, by show slots + 6 ≤ 7293034; exact hcs.2⟩ (fun H locs mem1 hP hh => ?_)
  obtain ⟨rm, P2, hrm, ⟨fs, f1⟩, hm, hZ⟩ := hQ mem1 hP
  refine lv_istore (lv' := [(6, .int (nI k)), (5, .int (nI i)), (0, .ref sa), (1, .ref (b + 0)), (2, .ref (b + 115)), (3, .ref (b + 136)), (4, .ref (b + 137))]) hx hb dL_law_1159 hl (by decide) rfl (fun ls hl => ?_)
  refine lv_aload_n hx hb dL_law_1161 rfl (lv_at hl 4 rfl) ?_
  refine lv_aload_n hx hb dL_law_1162 rfl (lv_at hl 2 rfl) ?_
  refine lv_iload hx hb dL_law_1163 (lv_at hl 1 rfl) ?_
  refine lv_iconst (v := (nI 1)) hx hb dL_law_1165 (by decide) ?_
  refine nn_iadd hx hb dL_law_1166 ?_
  refine lw_sld hx hb hX hsl hbz hh (k := i + 1) (by omega) hL dL_law_1167 ?_
  refine lw_V (As := [.int (xs (i + 1))]) (rest := []) hx hb hml hown hE hl.1 hh (kc_L_134 hE.2.1 ⟨by show _ ≤ 12; have := hrm.2.1; omega, by show _ ≤ 430; have := hrm.2.2; omega⟩) hm rfl (by decide) f1 rfl rfl (Nat.le_of_ble_eq_true rfl) dL_law_1168 hrm.1 ⟨by show cells + 1 ≤ 601024; exact hcs.1, by show slots + 6 ≤ 7293034; exact hcs.2⟩ (fun H locs mem2 hP2 hh => ?_)
  obtain ⟨hI2, hk2, hres⟩ := hZ mem2 hP2
  obtain ⟨_, _, _, _, _, _, _, _, _, _, _, fM⟩ := hk2
  refine lv_istore (lv' := [(7, .int r), (6, .int (nI k)), (5, .int (nI i)), (0, .ref sa), (1, .ref (b + 0)), (2, .ref (b + 115)), (3, .ref (b + 136)), (4, .ref (b + 137))]) hx hb dL_law_1171 hl (by decide) rfl (fun ls hl => ?_)
  refine lv_aload_n hx hb dL_law_1173 rfl (lv_at hl 5 rfl) ?_
  refine lw_V (As := []) (rest := []) hx hb hml hown hE hl.1 hh (kc_L_84 hE.2.1 ⟨Nat.le_of_ble_eq_true rfl, Nat.le_of_ble_eq_true rfl⟩) (c_X10_thrown l Γ b 138 mem2 (by decide) fM) rfl (by decide) fM rfl rfl (Nat.le_of_ble_eq_true rfl) dL_law_1174 ⟨rfl, rfl⟩ ⟨by show cells + 1 ≤ 601024; exact hcs.1, by show slots + 6 ≤ 7293034; exact hcs.2⟩ (fun H locs mem3 e3 hh => ?_)
  rw [e3] at hh
  refine lv_iload hx hb dL_law_1177 (lv_at hl 1 rfl) ?_
  refine nn_icmp_eq (tgt := 1184) hx hb dL_law_1179 (by decide) (by omega) (by omega) (fun _ => ?_) (fun h => absurd rfl h)
  refine lv_iload hx hb dL_law_1184 (lv_at hl 1 rfl) ?_
  refine nn_if_ne (tgt := 1201) hx hb dL_law_1186 (by decide) (by omega) (fun _ => ?_) (fun hz => ?_)
  · refine lv_goto (tgt := 1468) hx hb dL_law_1201 (by decide) ?_
    exact kk _ _ _ _ hI2 hh (lv_sub hl [2, 3, 4, 5, 6, 7] rfl)
  · obtain ⟨f, hf1, hf2⟩ := hres hz
    refine lv_aload_n hx hb dL_law_1189 rfl (lv_at hl 6 rfl) ?_
    refine lv_iconst (v := (nI 0)) hx hb dL_law_1190 (by decide) ?_
    refine mm_lald hx hb hE hh (k := 0) (by decide) hf1 (by decide) (by decide) dL_law_1191 ?_
    rw [hf2]
    refine lv_iload hx hb dL_law_1192 (lv_at hl 0 rfl) ?_
    refine lv_i2l hx hb dL_law_1194 rfl ?_
    refine W.lcmp hx hb dL_law_1195 ?_
    rw [lg_self]
    refine lv_if_eq (tgt := 1201) hx hb dL_law_1196 (by decide) (fun _ => ?_) (fun h => absurd rfl h)
    refine lv_goto (tgt := 1468) hx hb dL_law_1201 (by decide) ?_
    exact kk _ _ _ _ hI2 hh (lv_sub hl [2, 3, 4, 5, 6, 7] rfl)
set_option maxHeartbeats 4000000 in
set_option maxRecDepth 100000 in
/-- the law: fused -/
theorem sg_14 (C : LwC p l s m meth c sa L xs Γ b) (hi : i + 6 ≤ L) (hcs : cells + 1 ≤ 601024 ∧ slots + 6 ≤ 7293034) (hI : Inv Γ b mem) (hh : GH Γ b 138 mem s H locs) (hl : lv_has ls 10 [(5, .int (nI i)), (0, .ref sa), (1, .ref (b + 0)), (2, .ref (b + 115)), (3, .ref (b + 136)), (4, .ref (b + 137))]) (kk : LK p l e s m below meth c sa Γ b i cells slots) : W p l e room_1 s m #[Value.ref sa] below meth c H locs cells slots (lw_Z below #[Value.ref sa] s) (F0 m 1204 ls []) := by
  obtain ⟨hx, hb, hr, hlocks, hml, hown, hE, hX, hsl, hbz, hL, hlst⟩ := C
  obtain ⟨k, r, P, hk, hw, hQ⟩ := op_fused l hlst Γ b mem hI (xs (i + 1))
  refine lv_aload_n hx hb dL_law_1204 rfl (lv_at hl 2 rfl) ?_
  refine lv_aload_n hx hb dL_law_1205 rfl (lv_at hl 1 rfl) ?_
  refine lv_iload hx hb dL_law_1206 (lv_at hl 0 rfl) ?_
  refine lv_iconst (v := (nI 1)) hx hb dL_law_1208 (by decide) ?_
  refine nn_iadd hx hb dL_law_1209 ?_
  refine lw_sld hx hb hX hsl hbz hh (k := i + 1) (by omega) hL dL_law_1210 ?_
  refine lv_aload_n hx hb dL_law_1211 rfl (lv_at hl 4 rfl) ?_
  refine mw_S (As := [.ref (b + 0), .int (xs (i + 1)), .ref (b + 136)]) (rest := []) hx hb hml hown hE hl.1 hh (kw_fused hE.2.1 ⟨Nat.le_of_ble_eq_true rfl, Nat.le_of_ble_eq_true rfl⟩) hw rfl rfl (Nat.le_of_ble_eq_true rfl) dL_law_1212 ⟨by show cells + 1 ≤ 601024; exact hcs.1, by show slots + 6 ≤ 7293034; exact hcs.2⟩ (fun H locs mem1 hP hh => ?_)
  obtain ⟨rm, P2, hrm, ⟨fs, f1⟩, hm, hZ⟩ := hQ mem1 hP
  refine lv_istore (lv' := [(6, .int (nI k)), (5, .int (nI i)), (0, .ref sa), (1, .ref (b + 0)), (2, .ref (b + 115)), (3, .ref (b + 136)), (4, .ref (b + 137))]) hx hb dL_law_1215 hl (by decide) rfl (fun ls hl => ?_)
  refine lv_aload_n hx hb dL_law_1217 rfl (lv_at hl 4 rfl) ?_
  refine lv_aload_n hx hb dL_law_1218 rfl (lv_at hl 2 rfl) ?_
  refine lv_iload hx hb dL_law_1219 (lv_at hl 1 rfl) ?_
  refine lv_iconst (v := (nI 1)) hx hb dL_law_1221 (by decide) ?_
  refine nn_iadd hx hb dL_law_1222 ?_
  refine lw_sld hx hb hX hsl hbz hh (k := i + 1) (by omega) hL dL_law_1223 ?_
  refine lw_V (As := [.int (xs (i + 1))]) (rest := []) hx hb hml hown hE hl.1 hh (kc_L_137 hE.2.1 ⟨by show _ ≤ 12; have := hrm.2.1; omega, by show _ ≤ 430; have := hrm.2.2; omega⟩) hm rfl (by decide) f1 rfl rfl (Nat.le_of_ble_eq_true rfl) dL_law_1224 hrm.1 ⟨by show cells + 1 ≤ 601024; exact hcs.1, by show slots + 6 ≤ 7293034; exact hcs.2⟩ (fun H locs mem2 hP2 hh => ?_)
  obtain ⟨hI2, hk2, hres⟩ := hZ mem2 hP2
  obtain ⟨_, _, _, _, _, _, _, _, _, _, _, fM⟩ := hk2
  refine lv_istore (lv' := [(7, .int r), (6, .int (nI k)), (5, .int (nI i)), (0, .ref sa), (1, .ref (b + 0)), (2, .ref (b + 115)), (3, .ref (b + 136)), (4, .ref (b + 137))]) hx hb dL_law_1227 hl (by decide) rfl (fun ls hl => ?_)
  refine lv_aload_n hx hb dL_law_1229 rfl (lv_at hl 5 rfl) ?_
  refine lw_V (As := []) (rest := []) hx hb hml hown hE hl.1 hh (kc_L_84 hE.2.1 ⟨Nat.le_of_ble_eq_true rfl, Nat.le_of_ble_eq_true rfl⟩) (c_X10_thrown l Γ b 138 mem2 (by decide) fM) rfl (by decide) fM rfl rfl (Nat.le_of_ble_eq_true rfl) dL_law_1230 ⟨rfl, rfl⟩ ⟨by show cells + 1 ≤ 601024; exact hcs.1, by show slots + 6 ≤ 7293034; exact hcs.2⟩ (fun H locs mem3 e3 hh => ?_)
  rw [e3] at hh
  refine lv_iload hx hb dL_law_1233 (lv_at hl 1 rfl) ?_
  refine nn_icmp_eq (tgt := 1240) hx hb dL_law_1235 (by decide) (by omega) (by omega) (fun _ => ?_) (fun h => absurd rfl h)
  refine lv_iload hx hb dL_law_1240 (lv_at hl 1 rfl) ?_
  refine nn_if_ne (tgt := 1257) hx hb dL_law_1242 (by decide) (by omega) (fun _ => ?_) (fun hz => ?_)
  · refine lv_goto (tgt := 1468) hx hb dL_law_1257 (by decide) ?_
    exact kk _ _ _ _ hI2 hh (lv_sub hl [2, 3, 4, 5, 6, 7] rfl)
  · obtain ⟨f, hf1, hf2⟩ := hres hz
    refine lv_aload_n hx hb dL_law_1245 rfl (lv_at hl 6 rfl) ?_
    refine lv_iconst (v := (nI 0)) hx hb dL_law_1246 (by decide) ?_
    refine mm_lald hx hb hE hh (k := 0) (by decide) hf1 (by decide) (by decide) dL_law_1247 ?_
    rw [hf2]
    refine lv_iload hx hb dL_law_1248 (lv_at hl 0 rfl) ?_
    refine lv_i2l hx hb dL_law_1250 rfl ?_
    refine W.lcmp hx hb dL_law_1251 ?_
    rw [lg_self]
    refine lv_if_eq (tgt := 1257) hx hb dL_law_1252 (by decide) (fun _ => ?_) (fun h => absurd rfl h)
    refine lv_goto (tgt := 1468) hx hb dL_law_1257 (by decide) ?_
    exact kk _ _ _ _ hI2 hh (lv_sub hl [2, 3, 4, 5, 6, 7] rfl)
set_option maxHeartbeats 4000000 in
set_option maxRecDepth 100000 in
/-- the law: rating -/
theorem sg_15 (C : LwC p l s m meth c sa L xs Γ b) (hi : i + 6 ≤ L) (hcs : cells + 1 ≤ 601024 ∧ slots + 6 ≤ 7293034) (hI : Inv Γ b mem) (hh : GH Γ b 138 mem s H locs) (hl : lv_has ls 10 [(5, .int (nI i)), (0, .ref sa), (1, .ref (b + 0)), (2, .ref (b + 115)), (3, .ref (b + 136)), (4, .ref (b + 137))]) (kk : LK p l e s m below meth c sa Γ b i cells slots) : W p l e room_1 s m #[Value.ref sa] below meth c H locs cells slots (lw_Z below #[Value.ref sa] s) (F0 m 1260 ls []) := by
  obtain ⟨hx, hb, hr, hlocks, hml, hown, hE, hX, hsl, hbz, hL, hlst⟩ := C
  obtain ⟨k, r, P, hk, hw, hQ⟩ := op_rating l hlst Γ b mem hI (xs (i + 1))
  refine lv_aload_n hx hb dL_law_1260 rfl (lv_at hl 2 rfl) ?_
  refine lv_aload_n hx hb dL_law_1261 rfl (lv_at hl 1 rfl) ?_
  refine lv_iload hx hb dL_law_1262 (lv_at hl 0 rfl) ?_
  refine lv_iconst (v := (nI 1)) hx hb dL_law_1264 (by decide) ?_
  refine nn_iadd hx hb dL_law_1265 ?_
  refine lw_sld hx hb hX hsl hbz hh (k := i + 1) (by omega) hL dL_law_1266 ?_
  refine lv_aload hx hb dL_law_1267 (lv_at hl 5 rfl) ?_
  refine mw_S (As := [.ref (b + 0), .int (xs (i + 1)), .ref (b + 137)]) (rest := []) hx hb hml hown hE hl.1 hh (kw_rating hE.2.1 ⟨Nat.le_of_ble_eq_true rfl, Nat.le_of_ble_eq_true rfl⟩) hw rfl rfl (Nat.le_of_ble_eq_true rfl) dL_law_1269 ⟨by show cells + 1 ≤ 601024; exact hcs.1, by show slots + 6 ≤ 7293034; exact hcs.2⟩ (fun H locs mem1 hP hh => ?_)
  obtain ⟨rm, P2, hrm, ⟨fs, f1⟩, hm, hZ⟩ := hQ mem1 hP
  refine lv_istore (lv' := [(6, .int (nI k)), (5, .int (nI i)), (0, .ref sa), (1, .ref (b + 0)), (2, .ref (b + 115)), (3, .ref (b + 136)), (4, .ref (b + 137))]) hx hb dL_law_1272 hl (by decide) rfl (fun ls hl => ?_)
  refine lv_aload_n hx hb dL_law_1274 rfl (lv_at hl 4 rfl) ?_
  refine lv_aload_n hx hb dL_law_1275 rfl (lv_at hl 2 rfl) ?_
  refine lv_iload hx hb dL_law_1276 (lv_at hl 1 rfl) ?_
  refine lv_iconst (v := (nI 1)) hx hb dL_law_1278 (by decide) ?_
  refine nn_iadd hx hb dL_law_1279 ?_
  refine lw_sld hx hb hX hsl hbz hh (k := i + 1) (by omega) hL dL_law_1280 ?_
  refine lw_V (As := [.int (xs (i + 1))]) (rest := []) hx hb hml hown hE hl.1 hh (kc_L_141 hE.2.1 ⟨by show _ ≤ 12; have := hrm.2.1; omega, by show _ ≤ 430; have := hrm.2.2; omega⟩) hm rfl (by decide) f1 rfl rfl (Nat.le_of_ble_eq_true rfl) dL_law_1281 hrm.1 ⟨by show cells + 1 ≤ 601024; exact hcs.1, by show slots + 6 ≤ 7293034; exact hcs.2⟩ (fun H locs mem2 hP2 hh => ?_)
  obtain ⟨hI2, hk2, hres⟩ := hZ mem2 hP2
  obtain ⟨_, _, _, _, _, _, _, _, _, _, _, fM⟩ := hk2
  refine lv_dstore (lv' := [(7, .double r), (6, .int (nI k)), (5, .int (nI i)), (0, .ref sa), (1, .ref (b + 0)), (2, .ref (b + 115)), (3, .ref (b + 136)), (4, .ref (b + 137))]) hx hb dL_law_1284 hl (by decide) rfl (fun ls hl => ?_)
  refine lv_aload_n hx hb dL_law_1286 rfl (lv_at hl 5 rfl) ?_
  refine lw_V (As := []) (rest := []) hx hb hml hown hE hl.1 hh (kc_L_84 hE.2.1 ⟨Nat.le_of_ble_eq_true rfl, Nat.le_of_ble_eq_true rfl⟩) (c_X10_thrown l Γ b 138 mem2 (by decide) fM) rfl (by decide) fM rfl rfl (Nat.le_of_ble_eq_true rfl) dL_law_1287 ⟨rfl, rfl⟩ ⟨by show cells + 1 ≤ 601024; exact hcs.1, by show slots + 6 ≤ 7293034; exact hcs.2⟩ (fun H locs mem3 e3 hh => ?_)
  rw [e3] at hh
  refine lv_iload hx hb dL_law_1290 (lv_at hl 1 rfl) ?_
  refine nn_icmp_eq (tgt := 1297) hx hb dL_law_1292 (by decide) (by omega) (by omega) (fun _ => ?_) (fun h => absurd rfl h)
  refine lv_iload hx hb dL_law_1297 (lv_at hl 1 rfl) ?_
  refine nn_if_ne (tgt := 1334) hx hb dL_law_1299 (by decide) (by omega) (fun _ => ?_) (fun hz => ?_)
  · refine lv_goto (tgt := 1468) hx hb dL_law_1334 (by decide) ?_
    exact kk _ _ _ _ hI2 hh (lv_sub hl [2, 3, 4, 5, 6, 7] rfl)
  · obtain ⟨f, hf1, hf2⟩ := hres hz
    refine lv_aload hx hb dL_law_1302 (lv_at hl 7 rfl) ?_
    refine lv_iconst (v := (nI 0)) hx hb dL_law_1304 (by decide) ?_
    refine mm_dald hx hb hE hh (k := 0) (by decide) hf1 (by decide) (by decide) dL_law_1305 ?_
    rw [hf2]
    refine lv_dload hx hb dL_law_1306 (lv_at hl 0 rfl) ?_
    refine lv_dcmp hx hb dL_law_1308 ?_
    refine nn_cl_eq (tgt := 1334) hx hb dL_law_1309 (by decide) (fun _ => ?_) (fun hne => ?_)
    · refine lv_goto (tgt := 1468) hx hb dL_law_1334 (by decide) ?_
      exact kk _ _ _ _ hI2 hh (lv_sub hl [2, 3, 4, 5, 6, 7] rfl)
    ·
      refine lv_aload hx hb dL_law_1312 (lv_at hl 7 rfl) ?_
      refine lv_iconst (v := (nI 0)) hx hb dL_law_1314 (by decide) ?_
      refine mm_dald hx hb hE hh (k := 0) (by decide) hf1 (by decide) (by decide) dL_law_1315 ?_
      rw [hf2]
      refine lv_aload hx hb dL_law_1316 (lv_at hl 7 rfl) ?_
      refine lv_iconst (v := (nI 0)) hx hb dL_law_1318 (by decide) ?_
      refine mm_dald hx hb hE hh (k := 0) (by decide) hf1 (by decide) (by decide) dL_law_1319 ?_
      rw [hf2]
      refine lv_dcmp hx hb dL_law_1320 ?_
      refine nn_cl_eq (tgt := 1332) hx hb dL_law_1321 (by decide) (fun h => absurd h hne) (fun _ => ?_)
      refine lv_dload hx hb dL_law_1324 (lv_at hl 0 rfl) ?_
      refine lv_dload hx hb dL_law_1326 (lv_at hl 0 rfl) ?_
      refine lv_dcmp hx hb dL_law_1328 ?_
      refine nn_cl_ne (tgt := 1334) hx hb dL_law_1329 (by decide) (fun _ => ?_) (fun h => absurd hne h)
      refine lv_goto (tgt := 1468) hx hb dL_law_1334 (by decide) ?_
      exact kk _ _ _ _ hI2 hh (lv_sub hl [2, 3, 4, 5, 6, 7] rfl)
set_option maxHeartbeats 4000000 in
set_option maxRecDepth 100000 in
/-- the law: log -/
theorem sg_16 (C : LwC p l s m meth c sa L xs Γ b) (hi : i + 6 ≤ L) (hcs : cells + 1 ≤ 601024 ∧ slots + 6 ≤ 7293034) (hI : Inv Γ b mem) (hh : GH Γ b 138 mem s H locs) (hl : lv_has ls 10 [(5, .int (nI i)), (0, .ref sa), (1, .ref (b + 0)), (2, .ref (b + 115)), (3, .ref (b + 136)), (4, .ref (b + 137))]) (kk : LK p l e s m below meth c sa Γ b i cells slots) : W p l e room_1 s m #[Value.ref sa] below meth c H locs cells slots (lw_Z below #[Value.ref sa] s) (F0 m 1337 ls []) := by
  obtain ⟨hx, hb, hr, hlocks, hml, hown, hE, hX, hsl, hbz, hL, hlst⟩ := C
  obtain ⟨fs, f0⟩ := Inv_0 hI
  obtain ⟨rm, P2, hrm, ⟨fs1, f1⟩, hm, hZ⟩ := op_log l Γ b mem hI (FP.dmul (FP.i2d (xs (i + 1))) 4593671619917905920) (log_ok _)
  refine W.widen (k := cells + 1) (n := slots + 6) (by omega) (by omega) ?_
  refine lv_aload_n hx hb dL_law_1337 rfl (lv_at hl 2 rfl) ?_
  refine lv_aload_n hx hb dL_law_1338 rfl (lv_at hl 1 rfl) ?_
  refine lv_iload hx hb dL_law_1339 (lv_at hl 0 rfl) ?_
  refine lv_iconst (v := (nI 1)) hx hb dL_law_1341 (by decide) ?_
  refine nn_iadd hx hb dL_law_1342 ?_
  refine lw_sld hx hb hX hsl hbz hh (k := i + 1) (by omega) hL dL_law_1343 ?_
  refine lv_i2d hx hb dL_law_1344 ?_
  refine lv_ldc2d hx hb hown (wk_L_142 hE.2.1 _) dL_law_1345 ?_
  refine lv_dmul hx hb dL_law_1348 (dm_n _) ?_
  refine lw_V (As := [.double (FP.dmul (FP.i2d (xs (i + 1))) 4593671619917905920)]) (rest := []) hx hb hml hown hE hl.1 hh (kc_L_144 hE.2.1 ⟨Nat.le_of_ble_eq_true rfl, Nat.le_of_ble_eq_true rfl⟩) (c_X9_log l Γ b 138 mem (x := (FP.dmul (FP.i2d (xs (i + 1))) 4593671619917905920)) (by decide) (log_ok _)) rfl (by decide) f0 rfl rfl (Nat.le_of_ble_eq_true rfl) dL_law_1349 ⟨rfl, rfl⟩ ⟨by show cells + 1 ≤ 601024; exact hcs.1, by show slots + 6 ≤ 7293034; exact hcs.2⟩ (fun H locs mem1 e1 hh => ?_)
  rw [e1] at hh
  refine lv_dstore (lv' := [(6, .double (lgX (FP.dmul (FP.i2d (xs (i + 1))) 4593671619917905920))), (5, .int (nI i)), (0, .ref sa), (1, .ref (b + 0)), (2, .ref (b + 115)), (3, .ref (b + 136)), (4, .ref (b + 137))]) hx hb dL_law_1352 hl (by decide) rfl (fun ls hl => ?_)
  refine lv_aload_n hx hb dL_law_1354 rfl (lv_at hl 4 rfl) ?_
  refine lv_aload_n hx hb dL_law_1355 rfl (lv_at hl 2 rfl) ?_
  refine lv_iload hx hb dL_law_1356 (lv_at hl 1 rfl) ?_
  refine lv_iconst (v := (nI 1)) hx hb dL_law_1358 (by decide) ?_
  refine nn_iadd hx hb dL_law_1359 ?_
  refine lw_sld hx hb hX hsl hbz hh (k := i + 1) (by omega) hL dL_law_1360 ?_
  refine lv_i2d hx hb dL_law_1361 ?_
  refine lv_ldc2d hx hb hown (wk_L_142 hE.2.1 _) dL_law_1362 ?_
  refine lv_dmul hx hb dL_law_1365 (dm_n _) ?_
  refine lw_V (As := [.double (FP.dmul (FP.i2d (xs (i + 1))) 4593671619917905920)]) (rest := []) hx hb hml hown hE hl.1 hh (kc_L_148 hE.2.1 ⟨by show _ ≤ 12; have := hrm.2.1; omega, by show _ ≤ 430; have := hrm.2.2; omega⟩) hm rfl (by decide) f1 rfl rfl (Nat.le_of_ble_eq_true rfl) dL_law_1366 hrm.1 ⟨by show cells + 1 ≤ 601024; exact hcs.1, by show slots + 6 ≤ 7293034; exact hcs.2⟩ (fun H locs mem2 hP2 hh => ?_)
  have hI2 := hZ mem2 hP2
  refine lv_dstore (lv' := [(8, .double (lgX (FP.dmul (FP.i2d (xs (i + 1))) 4593671619917905920))), (6, .double (lgX (FP.dmul (FP.i2d (xs (i + 1))) 4593671619917905920))), (5, .int (nI i)), (0, .ref sa), (1, .ref (b + 0)), (2, .ref (b + 115)), (3, .ref (b + 136)), (4, .ref (b + 137))]) hx hb dL_law_1369 hl (by decide) rfl (fun ls hl => ?_)
  generalize lgX (FP.dmul (FP.i2d (xs (i + 1))) 4593671619917905920) = r at hl ⊢
  refine lv_dload hx hb dL_law_1371 (lv_at hl 1 rfl) ?_
  refine lv_dload hx hb dL_law_1373 (lv_at hl 0 rfl) ?_
  refine lv_dcmp hx hb dL_law_1375 ?_
  refine nn_cl_eq (tgt := 1397) hx hb dL_law_1376 (by decide) (fun _ => ?_) (fun hne => ?_)
  · refine lv_goto (tgt := 1468) hx hb dL_law_1397 (by decide) ?_
    exact kk _ _ _ _ hI2 hh (lv_sub hl [2, 3, 4, 5, 6, 7] rfl)
  ·
    refine lv_dload hx hb dL_law_1379 (lv_at hl 1 rfl) ?_
    refine lv_dload hx hb dL_law_1381 (lv_at hl 1 rfl) ?_
    refine lv_dcmp hx hb dL_law_1383 ?_
    refine nn_cl_eq (tgt := 1395) hx hb dL_law_1384 (by decide) (fun h => absurd h hne) (fun _ => ?_)
    refine lv_dload hx hb dL_law_1387 (lv_at hl 0 rfl) ?_
    refine lv_dload hx hb dL_law_1389 (lv_at hl 0 rfl) ?_
    refine lv_dcmp hx hb dL_law_1391 ?_
    refine nn_cl_ne (tgt := 1397) hx hb dL_law_1392 (by decide) (fun _ => ?_) (fun h => absurd hne h)
    refine lv_goto (tgt := 1468) hx hb dL_law_1397 (by decide) ?_
    exact kk _ _ _ _ hI2 hh (lv_sub hl [2, 3, 4, 5, 6, 7] rfl)
set_option maxHeartbeats 4000000 in
set_option maxRecDepth 100000 in
/-- the law: quantised -/
theorem sg_17 (C : LwC p l s m meth c sa L xs Γ b) (hi : i + 6 ≤ L) (hcs : cells + 1 ≤ 601024 ∧ slots + 6 ≤ 7293034) (hI : Inv Γ b mem) (hh : GH Γ b 138 mem s H locs) (hl : lv_has ls 10 [(5, .int (nI i)), (0, .ref sa), (1, .ref (b + 0)), (2, .ref (b + 115)), (3, .ref (b + 136)), (4, .ref (b + 137))]) (kk : LK p l e s m below meth c sa Γ b i cells slots) : W p l e room_1 s m #[Value.ref sa] below meth c H locs cells slots (lw_Z below #[Value.ref sa] s) (F0 m 1400 ls []) := by
  obtain ⟨hx, hb, hr, hlocks, hml, hown, hE, hX, hsl, hbz, hL, hlst⟩ := C
  obtain ⟨k, r, P, hk, hw, hQ⟩ := op_quantised l hlst Γ b mem hI (xs (i + 1)) (xs (i + 2))
  refine lv_aload_n hx hb dL_law_1400 rfl (lv_at hl 2 rfl) ?_
  refine lv_aload_n hx hb dL_law_1401 rfl (lv_at hl 1 rfl) ?_
  refine lv_iload hx hb dL_law_1402 (lv_at hl 0 rfl) ?_
  refine lv_iconst (v := (nI 1)) hx hb dL_law_1404 (by decide) ?_
  refine nn_iadd hx hb dL_law_1405 ?_
  refine lw_sld hx hb hX hsl hbz hh (k := i + 1) (by omega) hL dL_law_1406 ?_
  refine lv_aload_n hx hb dL_law_1407 rfl (lv_at hl 1 rfl) ?_
  refine lv_iload hx hb dL_law_1408 (lv_at hl 0 rfl) ?_
  refine lv_iconst (v := (nI 2)) hx hb dL_law_1410 (by decide) ?_
  refine nn_iadd hx hb dL_law_1411 ?_
  refine lw_sld hx hb hX hsl hbz hh (k := i + 2) (by omega) hL dL_law_1412 ?_
  refine lv_aload_n hx hb dL_law_1413 rfl (lv_at hl 4 rfl) ?_
  refine mw_S (As := [.ref (b + 0), .int (xs (i + 1)), .int (xs (i + 2)), .ref (b + 136)]) (rest := []) hx hb hml hown hE hl.1 hh (kw_quantised hE.2.1 ⟨Nat.le_of_ble_eq_true rfl, Nat.le_of_ble_eq_true rfl⟩) hw rfl rfl (Nat.le_of_ble_eq_true rfl) dL_law_1414 ⟨by show cells + 1 ≤ 601024; exact hcs.1, by show slots + 6 ≤ 7293034; exact hcs.2⟩ (fun H locs mem1 hP hh => ?_)
  obtain ⟨rm, P2, hrm, ⟨fs, f1⟩, hm, hZ⟩ := hQ mem1 hP
  refine lv_istore (lv' := [(6, .int (nI k)), (5, .int (nI i)), (0, .ref sa), (1, .ref (b + 0)), (2, .ref (b + 115)), (3, .ref (b + 136)), (4, .ref (b + 137))]) hx hb dL_law_1417 hl (by decide) rfl (fun ls hl => ?_)
  refine lv_aload_n hx hb dL_law_1419 rfl (lv_at hl 4 rfl) ?_
  refine lv_aload_n hx hb dL_law_1420 rfl (lv_at hl 2 rfl) ?_
  refine lv_iload hx hb dL_law_1421 (lv_at hl 1 rfl) ?_
  refine lv_iconst (v := (nI 1)) hx hb dL_law_1423 (by decide) ?_
  refine nn_iadd hx hb dL_law_1424 ?_
  refine lw_sld hx hb hX hsl hbz hh (k := i + 1) (by omega) hL dL_law_1425 ?_
  refine lv_aload_n hx hb dL_law_1426 rfl (lv_at hl 2 rfl) ?_
  refine lv_iload hx hb dL_law_1427 (lv_at hl 1 rfl) ?_
  refine lv_iconst (v := (nI 2)) hx hb dL_law_1429 (by decide) ?_
  refine nn_iadd hx hb dL_law_1430 ?_
  refine lw_sld hx hb hX hsl hbz hh (k := i + 2) (by omega) hL dL_law_1431 ?_
  refine lw_V (As := [.int (xs (i + 1)), .int (xs (i + 2))]) (rest := []) hx hb hml hown hE hl.1 hh (kc_L_151 hE.2.1 ⟨by show _ ≤ 12; have := hrm.2.1; omega, by show _ ≤ 430; have := hrm.2.2; omega⟩) hm rfl (by decide) f1 rfl rfl (Nat.le_of_ble_eq_true rfl) dL_law_1432 hrm.1 ⟨by show cells + 1 ≤ 601024; exact hcs.1, by show slots + 6 ≤ 7293034; exact hcs.2⟩ (fun H locs mem2 hP2 hh => ?_)
  obtain ⟨hI2, hk2, hres⟩ := hZ mem2 hP2
  obtain ⟨_, _, _, _, _, _, _, _, _, _, _, fM⟩ := hk2
  refine lv_istore (lv' := [(7, .int r), (6, .int (nI k)), (5, .int (nI i)), (0, .ref sa), (1, .ref (b + 0)), (2, .ref (b + 115)), (3, .ref (b + 136)), (4, .ref (b + 137))]) hx hb dL_law_1435 hl (by decide) rfl (fun ls hl => ?_)
  refine lv_aload_n hx hb dL_law_1437 rfl (lv_at hl 5 rfl) ?_
  refine lw_V (As := []) (rest := []) hx hb hml hown hE hl.1 hh (kc_L_84 hE.2.1 ⟨Nat.le_of_ble_eq_true rfl, Nat.le_of_ble_eq_true rfl⟩) (c_X10_thrown l Γ b 138 mem2 (by decide) fM) rfl (by decide) fM rfl rfl (Nat.le_of_ble_eq_true rfl) dL_law_1438 ⟨rfl, rfl⟩ ⟨by show cells + 1 ≤ 601024; exact hcs.1, by show slots + 6 ≤ 7293034; exact hcs.2⟩ (fun H locs mem3 e3 hh => ?_)
  rw [e3] at hh
  refine lv_iload hx hb dL_law_1441 (lv_at hl 1 rfl) ?_
  refine nn_icmp_eq (tgt := 1448) hx hb dL_law_1443 (by decide) (by omega) (by omega) (fun _ => ?_) (fun h => absurd rfl h)
  refine lv_iload hx hb dL_law_1448 (lv_at hl 1 rfl) ?_
  refine nn_if_ne (tgt := 1465) hx hb dL_law_1450 (by decide) (by omega) (fun _ => ?_) (fun hz => ?_)
  · refine lv_goto (tgt := 1468) hx hb dL_law_1465 (by decide) ?_
    exact kk _ _ _ _ hI2 hh (lv_sub hl [2, 3, 4, 5, 6, 7] rfl)
  · obtain ⟨f, hf1, hf2⟩ := hres hz
    refine lv_aload_n hx hb dL_law_1453 rfl (lv_at hl 6 rfl) ?_
    refine lv_iconst (v := (nI 0)) hx hb dL_law_1454 (by decide) ?_
    refine mm_lald hx hb hE hh (k := 0) (by decide) hf1 (by decide) (by decide) dL_law_1455 ?_
    rw [hf2]
    refine lv_iload hx hb dL_law_1456 (lv_at hl 0 rfl) ?_
    refine lv_i2l hx hb dL_law_1458 rfl ?_
    refine W.lcmp hx hb dL_law_1459 ?_
    rw [lg_self]
    refine lv_if_eq (tgt := 1465) hx hb dL_law_1460 (by decide) (fun _ => ?_) (fun h => absurd rfl h)
    refine lv_goto (tgt := 1468) hx hb dL_law_1465 (by decide) ?_
    exact kk _ _ _ _ hI2 hh (lv_sub hl [2, 3, 4, 5, 6, 7] rfl)
end LWT
